/-! lists of steps, capped at 100 -/
abbrev ST := List (Int × Int)
def cap (L X : ST) : ST := (L ++ X).take 100
theorem take_cap : ∀ (n : Nat) (A B : ST), (A.take n ++ B).take n = (A ++ B).take n
  | 0, A, B => by simp
  | n + 1, [], B => by simp
  | n + 1, a :: A, B => by
    have := take_cap n A B
    simp only [List.take_succ_cons, List.cons_append]
    rw [this]
theorem cap_cap (L X Y : ST) : cap (cap L X) Y = cap L (X ++ Y) := by
  unfold cap
  rw [take_cap, List.append_assoc]
theorem cap_nil {L : ST} (h : L.length ≤ 100) : cap L [] = L := by
  unfold cap
  rw [List.append_nil, List.take_of_length_le h]
theorem cap_len (L X : ST) : (cap L X).length ≤ 100 := by
  unfold cap
  rw [List.length_take]
  exact Nat.min_le_left _ _
theorem cap_full {L X : ST} (h : L.length = 100) : cap L X = L := by
  unfold cap
  rw [List.take_append_of_le_length (by omega), List.take_of_length_le (by omega)]
theorem cap_at {L X : ST} {i : Nat} (hi : i < L.length) (hl : L.length ≤ 100) : (cap L X)[i]? = L[i]? := by
  unfold cap
  rw [List.getElem?_take, if_pos (by omega), List.getElem?_append, if_pos hi]
def rept : Nat → ST → ST
  | 0, _ => []
  | k + 1, B => B ++ rept k B
theorem rept_s : ∀ (k : Nat) (B : ST), rept k B ++ B = B ++ rept k B
  | 0, B => by simp [rept]
  | k + 1, B => by
    show B ++ rept k B ++ B = B ++ (B ++ rept k B)
    rw [List.append_assoc, rept_s k B]
/-! the class reads -/
def CS (σ τ : xS) (p : Nat) (fl : Int) (L : ST) : Prop := ((∀ r, r ≠ 1 → r ≠ 3 → r ≠ 4 → τ r = σ r) ∧ ∀ j, j ≠ 4 → j ≠ 5 → j ≠ 6 → τ 1 j = σ 1 j) ∧ τ 1 5 = (p : Int) ∧ τ 1 6 = fl ∧ τ 1 4 = (L.length : Int) ∧ L.length ≤ 100 ∧ ∀ i x, L[i]? = some x → τ 3 i = x.1 ∧ τ 4 i = x.2
section
variable {σ τ : xS} {n p d : Nat} {t : Nat → Int} {fl : Int} {L : ST}
theorem CS.up (h : CS σ τ p fl L) {p' : Nat} {fl' : Int} {τ' : xS} (ho : ∀ r, r ≠ 1 → τ' r = τ r) (h1 : ∀ j, j ≠ 5 → j ≠ 6 → τ' 1 j = τ 1 j) (h5 : τ' 1 5 = (p' : Int)) (h6 : τ' 1 6 = fl') : CS σ τ' p' fl' L := by
  obtain ⟨⟨f1, f2⟩, a1, a2, a3, a4, a5⟩ := h
  refine ⟨⟨fun r x y z => (ho r x).trans (f1 r x y z), fun j x y z => (h1 j y z).trans (f2 j x y z)⟩, h5, h6, (h1 4 (by omega) (by omega)).trans a3, a4, fun i x hx => ?_⟩
  rw [ho 3 (by omega), ho 4 (by omega)]
  exact a5 i x hx
theorem CS.at5 (h : CS σ τ p fl L) (p' : Nat) {v : Int} (hv : v = (p' : Int)) : CS σ (xup τ 1 5 v) p' fl L :=
  h.up (fun r hr => xup_ne hr) (fun j a _ => by rw [xup_app, if_neg (by omega)]) (by rw [xup_app, if_pos ⟨rfl, rfl⟩, hv]) (by rw [xup_app, if_neg (by omega)]; exact h.2.2.1)
theorem CS.at6 (h : CS σ τ p fl L) (v : Int) : CS σ (xup τ 1 6 v) p v L :=
  h.up (fun r hr => xup_ne hr) (fun j _ a => by rw [xup_app, if_neg (by omega)]) (by rw [xup_app, if_neg (by omega)]; exact h.2.1) (by rw [xup_app, if_pos ⟨rfl, rfl⟩])
theorem p_n (ht : TX σ n t) (h : CS σ τ p fl L) : τ 1 1 = (n : Int) ∧ ∀ i, i < n → τ 2 i = t i := by
  refine ⟨(h.1.2 1 (by omega) (by omega) (by omega)).trans ht.2.1, fun i hi => ?_⟩
  rw [h.1.1 2 (by omega) (by omega) (by omega)]
  exact (ht.2.2.2.1 i hi).1
theorem p_peek {Q : Int → xS → Prop} (ht : TX σ n t) (h : CS σ τ p fl L) (hp : p ≤ 900) (k : ∀ τ', CS σ τ' (bl n t p) fl L → Q (tb n t (bl n t p)) τ') : vX3_peek τ Q := by
  have htn := ht.1
  unfold vX3_peek
  refine mu_of (fun a => ∃ q, CS σ a q fl L ∧ q ≤ 960 ∧ bl n t q = bl n t p) (fun a => 961 - (a 1 5).toNat) ?_ _ ⟨p, h, by omega, rfl⟩
  rintro K a ⟨q, hq, hq9, hbl⟩ hK
  obtain ⟨n1, n2⟩ := p_n ht hq
  have hb := tb_in ht.2.2.2.2 q
  have fin : bl n t q = q → vX3_peek_38 Q a := fun he => by
    rw [he] at hbl
    subst hbl
    unfold vX3_peek_38
    rw [hq.2.1, n1]
    refine ⟨⟨by omega, by omega⟩, ⟨by omega, by omega⟩, fun w => ?_, fun w => ⟨⟨by omega, by omega⟩, ?_⟩⟩
    · have := k a hq
      rw [hb.2.1 (by omega)] at this
      exact this
    · have := k a hq
      rw [Int.toNat_natCast, n2 _ (by omega), ← hb.2.2 (by omega)]
      exact this
  unfold vX3_peek_0
  dsimp only
  rw [hq.2.1, n1, Int.toNat_natCast]
  refine ⟨⟨by omega, by omega⟩, ⟨by omega, by omega⟩, fun w => fin (bl_0 (fun z => by omega)), fun w => ⟨⟨by omega, by omega⟩, ?_, fun z => fin (bl_0 (fun y => z ?_)), fun z s hs => ?_⟩⟩
  · rw [n2 _ (by omega), ← hb.2.2 (by omega)]
    exact ⟨by omega, by omega⟩
  · rw [n2 _ (by omega)]
    exact y.2
  · subst hs
    have hs' := hq.at5 (q + 1) (v := (q : Int) + 1) (by rw [Int.natCast_add]; rfl)
    refine hK _ ⟨q + 1, hs', by omega, ?_⟩ ?_
    · rw [← bl_s ⟨by omega, by rw [← n2 _ (by omega)]; exact z⟩, hbl]
    · rw [hs'.2.1, hq.2.1]
      omega
theorem p_isDigit {Q : Int → xS → Prop} {c : Int} (hc : rng c) (k1 : isd c → Q 1 τ) (k0 : ¬ isd c → Q 0 τ) : vX3_isDigit c τ Q := by
  unfold vX3_isDigit
  exact ⟨hc, fun z => k0 (fun w => by omega), fun z => ⟨fun y => k0 (fun w => by omega), fun y => k1 ⟨by omega, by omega⟩⟩⟩
theorem p_byteAt {Q : Int → xS → Prop} (ht : TX σ n t) (h : CS σ τ p fl L) {q : Nat} (hq : q ≤ 900) (k : Q (tb n t q) τ) : vX3_byteAt (q : Int) τ Q := by
  obtain ⟨n1, n2⟩ := p_n ht h
  have htn := ht.1
  have hb := tb_in ht.2.2.2.2 q
  unfold vX3_byteAt
  rw [n1]
  refine ⟨⟨by omega, by omega⟩, fun w => absurd w (by omega), fun _ => ⟨⟨by omega, by omega⟩, fun w => ?_, fun w => ⟨⟨by omega, by omega⟩, ?_⟩⟩⟩
  · rw [hb.2.1 (by omega)] at k
    exact k
  · rw [Int.toNat_natCast, n2 _ (by omega), ← hb.2.2 (by omega)]
    exact k
/-- a number of the class: a fault at its place, or its value -/
theorem p_number {Q : Int → xS → Prop} {m : Nat} (ht : TX σ n t) (h : CS σ τ p (-1) L) (hp : p ≤ 200) (hm : m ≤ 99) (k1 : ∀ τ' q (v : Nat), q ≤ bl n t p + 2 → v ≤ 99 → (¬ isd (tb n t (bl n t p)) ∨ ¬ (1 ≤ nvN n t (bl n t p) ∧ nvN n t (bl n t p) ≤ m)) → CS σ τ' q (bl n t p : Int) L → Q (v : Int) τ') (k2 : ∀ τ', isd (tb n t (bl n t p)) → (1 ≤ nvN n t (bl n t p) ∧ nvN n t (bl n t p) ≤ m) → CS σ τ' (naN n t (bl n t p)) (-1) L → Q (nvN n t (bl n t p) : Int) τ') : vX3_readNumber (m : Int) τ Q := by
  have htn := ht.1
  have hbl := bl_is n t p
  have hb := tb_in ht.2.2.2.2 (bl n t p)
  have hb1 := tb_in ht.2.2.2.2 (bl n t p + 1)
  unfold vX3_readNumber
  refine p_peek ht h (by omega) (fun τ1 h1 => p_isDigit ⟨by omega, by omega⟩ (fun hd => ⟨⟨by omega, by omega⟩, fun _ => ?_, fun w => absurd w (by omega)⟩) (fun hd => ⟨rng0, fun w => absurd rfl w, fun _ s hs => ?_⟩))
  · rw [h1.2.1]
    refine p_byteAt ht h1 (by omega) (fun s hs => ?_)
    have hs' : CS σ s (bl n t p + 1) (-1) L := by
      rw [hs]
      exact h1.at5 _ (by rw [h1.2.1, Int.natCast_add]; rfl)
    have nv9 := nvN_le hd
    have fin : ∀ (τ2 : xS) (v : Int), v = (nvN n t (bl n t p) : Int) → CS σ τ2 (naN n t (bl n t p)) (-1) L → vX3_readNumber_88 Q (m : Int) (bl n t p : Int) v τ2 := fun τ2 v hv h2 => by
      subst hv
      have hna := naN_is n t (bl n t p)
      have bad : ¬ (1 ≤ nvN n t (bl n t p) ∧ nvN n t (bl n t p) ≤ m) → vX3_readNumber_98 Q (bl n t p : Int) (nvN n t (bl n t p) : Int) τ2 := fun w => by
        unfold vX3_readNumber_98
        intro s2 hs2
        subst hs2
        exact k1 _ (naN n t (bl n t p)) _ (by omega) nv9 (Or.inr w) (h2.at6 _)
      unfold vX3_readNumber_88
      exact ⟨⟨by omega, by omega⟩, fun w => bad (by omega), fun w => ⟨⟨by omega, by omega⟩, fun z => k2 τ2 hd (by omega) h2, fun z => bad (by omega)⟩⟩
    rw [hs'.2.1]
    refine p_byteAt ht hs' (by omega) (p_isDigit ⟨by omega, by omega⟩ (fun hd2 => ⟨⟨by omega, by omega⟩, fun w => absurd w (by omega), fun _ => ?_⟩) (fun hd2 => ⟨rng0, fun _ => ?_, fun w => absurd rfl w⟩))
    · rw [hs'.2.1]
      refine p_byteAt ht hs' (by omega) (fun v hv s2 hs2 => fin s2 v ?_ ?_)
      · rw [hv]
        unfold nvN
        rw [if_pos hd2]
        omega
      · rw [hs2]
        unfold naN
        rw [if_pos hd2]
        exact hs'.at5 _ (by rw [hs'.2.1]; rfl)
    · refine fin s _ ?_ ?_
      · unfold nvN
        rw [if_neg hd2]
        omega
      · unfold naN
        rw [if_neg hd2]
        exact hs'
  · rw [h1.2.1] at hs
    subst hs
    exact k1 _ (bl n t p) 0 (by omega) (by omega) (Or.inl hd) (h1.at6 _)
theorem p_expect {Q : xS → Prop} {c : Int} (hc : rng c) (ht : TX σ n t) (h : CS σ τ p (-1) L) (hp : p ≤ 500) (k1 : ∀ τ', tb n t (bl n t p) ≠ c → CS σ τ' (bl n t p) (bl n t p : Int) L → Q τ') (k2 : ∀ τ', tb n t (bl n t p) = c → CS σ τ' (bl n t p + 1) (-1) L → Q τ') : vX3_expect c τ Q := by
  have htn := ht.1
  have hbl := bl_is n t p
  have hb := tb_in ht.2.2.2.2 (bl n t p)
  unfold vX3_expect
  rw [h.2.2.1]
  refine ⟨⟨by decide, by decide⟩, fun _ => p_peek ht h (by omega) (fun τ1 h1 => ⟨⟨by omega, by omega⟩, hc, fun z s hs => ?_, fun z s hs => ?_⟩), fun w => absurd rfl w⟩
  · rw [h1.2.1] at hs
    subst hs
    exact k1 _ z (h1.at6 _)
  · rw [h1.2.1] at hs
    subst hs
    exact k2 _ z (h1.at5 _ (by rw [Int.natCast_add]; rfl))
theorem p_expectf {Q : xS → Prop} {c : Int} {f : Nat} (h : CS σ τ p (f : Int) L) (hf : f ≤ 1000) (k : Q τ) : vX3_expect c τ Q := by
  unfold vX3_expect
  rw [h.2.2.1]
  exact ⟨⟨by omega, by omega⟩, fun w => absurd w (by omega), fun _ => k⟩
theorem p_add {Q : xS → Prop} {x v : Int} (h : CS σ τ p fl L) (k : ∀ τ', CS σ τ' p fl (cap L [(x, v)]) → Q τ') : vX3_add x v τ Q := by
  have hh := h
  obtain ⟨⟨f1, f2⟩, a1, a2, a3, a4, a5⟩ := h
  unfold vX3_add
  rw [a3]
  refine ⟨⟨by omega, by omega⟩, fun z => ?_, fun z => ⟨⟨by omega, by omega⟩, fun s1 e1 => ?_⟩⟩
  · have := k τ
    rw [cap_full (by omega)] at this
    exact this hh
  · have b4 : s1 1 4 = (L.length : Int) := by rw [e1, xup_ne (by omega), a3]
    rw [b4]
    refine ⟨⟨by omega, by omega⟩, fun s2 e2 s3 e3 => k s3 ?_⟩
    rw [Int.toNat_natCast] at e1 e2
    have c4 : s2 1 4 = (L.length : Int) := by rw [e2, xup_ne (by omega), b4]
    have hcl : cap L [(x, v)] = L ++ [(x, v)] := by
      unfold cap
      rw [List.take_of_length_le (by rw [List.length_append]; show L.length + 1 ≤ 100; omega)]
    rw [hcl]
    refine ⟨⟨fun r x y z => by rw [e3, xup_ne x, e2, xup_ne z, e1, xup_ne y, f1 r x y z], fun j x y z => by rw [e3, xup_app, if_neg (by omega), e2, xup_ne (by omega), e1, xup_ne (by omega), f2 j x y z]⟩, ?_, ?_, ?_, ?_, ?_⟩
    · rw [e3, xup_app, if_neg (by omega), e2, xup_ne (by omega), e1, xup_ne (by omega), a1]
    · rw [e3, xup_app, if_neg (by omega), e2, xup_ne (by omega), e1, xup_ne (by omega), a2]
    · rw [e3, xup_app, if_pos ⟨rfl, rfl⟩, c4, List.length_append]
      rfl
    · rw [List.length_append]
      show L.length + 1 ≤ 100
      omega
    · intro i y hy
      rw [e3, xup_ne (by omega), xup_ne (by omega), e2, xup_ne (by omega), xup_app, e1, xup_app, xup_ne (by omega)]
      rw [List.getElem?_append] at hy
      by_cases w : i < L.length
      · rw [if_pos w] at hy
        rw [if_neg (by omega), if_neg (by omega)]
        exact a5 i y hy
      · rw [if_neg w] at hy
        have : i = L.length := by
          by_cases u : i = L.length
          · exact u
          · rw [List.getElem?_eq_none (by show 1 ≤ i - L.length; omega)] at hy
            exact absurd hy (by simp)
        rw [if_pos ⟨rfl, this⟩, if_pos ⟨rfl, this⟩]
        rw [this, Nat.sub_self] at hy
        have : (x, v) = y := by simpa using hy
        rw [← this]
        exact ⟨rfl, rfl⟩
end
