/-! digest -/
def hsh (f : Nat → Int) : Nat → Int → Int
  | 0, h => h
  | n + 1, h => 31 * hsh f n h + f n
theorem MinC.ex {A S : Nat → Nat} {r x y z : Nat} (hr : 1 ≤ r ∧ r ≤ 40) : ∃ v, MinC A S r x y z v := by
  by_cases h : ∃ c, Can (uU A S) A S r c x y z
  · obtain ⟨c, hc⟩ := h
    have h120 : Can (uU A S) A S r 120 x y z := Can.triv' (n0 := 1) (n1 := 1) (n2 := 1) (fun _ => by omega) (fun _ => by omega) (fun _ => by omega) hr (by omega) hc
    have key : ∀ m, m ≤ 120 → Can (uU A S) A S r m x y z → ∃ c, c ≤ 120 ∧ Can (uU A S) A S r c x y z ∧ ∀ c', c' < c → ¬ Can (uU A S) A S r c' x y z := by
      intro m
      induction m with
      | zero => exact fun _ h => ⟨0, by omega, h, fun c' hc' => absurd hc' (Nat.not_lt_zero c')⟩
      | succ m ih =>
        intro hm h
        by_cases hp : Can (uU A S) A S r m x y z
        · exact ih (by omega) hp
        · exact ⟨m + 1, hm, h, fun c' hc' hcan => hp (hcan.mono (by omega))⟩
    obtain ⟨c0, a, b, d⟩ := key 120 (by omega) h120
    exact ⟨(c0 : Int), Or.inr ⟨c0, rfl, a, b, d⟩⟩
  · exact ⟨-1, Or.inl ⟨rfl, fun c hc => h ⟨c, hc⟩⟩⟩
theorem mcv_ex (b : xS) (k : Nat) : ∃ v, (1 ≤ k + 1 ∧ k + 1 ≤ 40) → MinC (pA b) (pS b) (k + 1) (pv b 0) (pv b 1) (pv b 2) v := by
  by_cases h : 1 ≤ k + 1 ∧ k + 1 ≤ 40
  · obtain ⟨v, hv⟩ := MinC.ex (A := pA b) (S := pS b) (x := pv b 0) (y := pv b 1) (z := pv b 2) h
    exact ⟨v, fun _ => hv⟩
  · exact ⟨0, fun q => absurd q h⟩
noncomputable def mcv (b : xS) (k : Nat) : Int := Classical.choose (mcv_ex b k)
theorem mcv_is {b : xS} {k : Nat} {v : Int} (hk : k < 40) (h : MinC (pA b) (pS b) (k + 1) (pv b 0) (pv b 1) (pv b 2) v) : v = mcv b k := h.uniq (Classical.choose_spec (mcv_ex b k) ⟨by omega, by omega⟩)
noncomputable def dg1 (b : xS) (d n : Nat) : Int := hsh (fun k => vCn b d (n : Int) (k : Int)) 10 139
noncomputable def dg2 (b : xS) (d n : Nat) : Int := hsh (fun k => vGl b ((k / 8 : Nat) : Int) ((k % 8 : Nat) : Int)) (8 * (b 3 0).toNat) (dg1 b d n)
noncomputable def dg3 (b : xS) (d n : Nat) : Int := hsh (fun k => vEv b ((k / 3 : Nat) : Int) ((k % 3 : Nat) : Int)) (3 * (aListed b).toNat) (dg2 b d n)
noncomputable def dg4 (b : xS) (d n : Nat) : Int := hsh (mcv b) 20 (dg3 b d n)
noncomputable def dg6 (b : xS) (d n : Nat) (t : Nat → Int) (N : Nat) : Int := hsh t n (31 * dg4 b d n + (pcB N 48 : Int))
theorem vCn_rng {T T' : Int} {b : xS} {d n : Nat} {x : Int} (hT : T ≤ 1000000) (hw : WFt T' b) (hT' : T' ≤ 100000) (ht : TT T b) (hd : d ≤ 8) (hn : n ≤ 60) : rng (vCn b d (n : Int) x) := by
  have h1 := hw.1
  have h2 := hw.2.1
  have h3 := hw.2.2.1
  have h4 := hw.2.2.2.1
  have h5 := aStacks_in hw
  have h6 := aListed_in hw
  unfold TT at ht
  unfold vCn
  split
  · constructor <;> decide
  · split
    · constructor <;> omega
    · split
      · constructor <;> omega
      · split
        · constructor <;> omega
        · split
          · split
            · constructor <;> decide
            · constructor <;> omega
          · split
            · constructor <;> omega
            · split
              · constructor <;> omega
              · split
                · constructor <;> omega
                · split
                  · constructor <;> omega
                  · split
                    · constructor <;> omega
                    · constructor <;> omega
theorem vGl_rng {T : Int} {b : xS} {x y : Int} (hw : WFt T b) : rng (vGl b x y) := by
  unfold vGl
  split
  · constructor <;> decide
  · rename_i h
    split
    · split <;> constructor <;> decide
    · have hlt : (x.toNat : Int) < b 3 0 := by omega
      have hr := hw.row hlt
      have ho := hw.root hlt
      have hn := hw.1
      unfold RowOK at hr
      have hy : y.toNat < 7 := by omega
      rcases (show y.toNat = 0 ∨ y.toNat = 1 ∨ y.toNat = 2 ∨ y.toNat = 3 ∨ y.toNat = 4 ∨ y.toNat = 5 ∨ y.toNat = 6 by omega) with e | e | e | e | e | e | e <;> rw [e] <;> constructor <;> omega
theorem vEv_rng {T : Int} {σ b : xS} {x y : Int} (hT : T ≤ 100000) (hw : WFt T b) (h : CB (σ 8) b) (h8 : ∀ j, j < 63 → rng (σ 8 j)) : rng (vEv b x y) := by
  have h3 := hw.2.2.2.1
  have h1 := hw.2.1
  have hl := jmin_le (b 3 3) 12
  unfold vEv
  split
  · constructor <;> decide
  · rename_i hxy
    split
    · constructor <;> decide
    · rename_i hx
      unfold aListed at hx
      have e := h.2.2 ((b 3 3).toNat - 1 - x.toNat) y.toNat (by omega) (by omega) (by omega)
      unfold aPart
      rw [← e]
      exact h8 _ (by omega)
def FD (u v : xS) : Prop := (∀ r, r ≠ 20 → r ≠ 29 → r ≠ 30 → r ≠ 31 → r ≠ 32 → r ≠ 33 → v r = u r) ∧ ∀ j, j ≠ 16 → j ≠ 20 → j ≠ 21 → v 20 j = u 20 j
theorem FD.refl (σ : xS) : FD σ σ := ⟨fun _ _ _ _ _ _ _ => rfl, fun _ _ _ _ => rfl⟩
theorem FD.mix {u v : xS} (h : FD u v) (w : Int) : FD u (xup v 20 21 w) := ⟨fun r a b c d e f => by rw [xup_ne a, h.1 r a b c d e f], fun j a b c => by rw [xup_app, if_neg (by omega), h.2 j a b c]⟩
theorem FD.fm {u v w : xS} (h : FD u v) (h2 : FMd v w) : FD u w := ⟨fun r a1 a2 a3 a4 a5 a6 => (h2.1 r a1 a2 a3 a4 a5 a6).trans (h.1 r a1 a2 a3 a4 a5 a6), fun j a1 a2 a3 => (h2.2 j a1 a2).trans (h.2 j a1 a2 a3)⟩
theorem fpl_fd {σ u v : xS} (h1 : FP σ u) (h2 : FD u v) : Fpl σ v := ⟨fun r a0 a1 a2 a3 a4 a5 a6 => by rw [h2.1 r a1 a2 a3 a4 a5 a6, h1 r (by omega) (by omega) (by omega) (by omega) (by omega) (by omega)], fun j a1 a2 a3 => by rw [h2.2 j a1 a2 a3, h1 20 (by omega) (by omega) (by omega) (by omega) (by omega) (by omega)]⟩
theorem MT.mix {u : xS} (h : MT u) (w : Int) : MT (xup u 20 21 w) := by
  unfold MT at h ⊢
  rw [xup_app, if_neg (by omega), xup_ne (by omega), xup_ne (by omega)]
  exact h
theorem PRE.mix {u b : xS} (h : PRE u b) (w : Int) : PRE (xup u 20 21 w) b := by
  obtain ⟨h1, h2, h3, h4, h5⟩ := h
  exact ⟨by rw [xup_ne (by omega)]; exact h1, h2, by rw [xup_ne (by omega)]; exact h3, by rw [xup_ne (by omega)]; exact h4, h5.mix w⟩
theorem ok_mix {u : xS} {a : Int} {Q : xS → Prop} (ha : rng a) (k : Q (xup u 20 21 (31 * (u 20 21) + a))) : vX5_mixes a u Q := by
  unfold vX5_mixes
  exact ⟨ha, fun s hs => hs ▸ k⟩
section
variable {T : Int} {P : Bool} {σ b : xS} {d n : Nat} {t : Nat → Int} {H : Nat → xS} {K : Bool → xS → Prop} {x y z : Int}
theorem dg_class {RP : xS → (xS → Prop) → Prop} {Q : Int → Bool → xS → Prop} (hT0 : T ≤ 1000000) (h : KB T σ b d H) (hn : NRx σ) (ht : TX σ n t) (hRP : RPok RP σ b) (k : ∀ (u : xS) (N : Nat), FP σ u → RDC u b → N < 2199023255552 → (∀ r, Nat.testBit N r = true ↔ (1 ≤ r ∧ r ≤ 40) ∧ Can (uU (pA b) (pS b)) (pA b) (pS b) r 3 (pv b 0) (pv b 1) (pv b 2)) → Q (dg6 b d n t N) true u) : vX4_digest RP σ Q := by
  have hw := h.2.2.1
  have hnn := hw.1
  have hd := h.2.2.2.2.1.1
  have hl := aListed_in hw
  have tt := h.2.2.2.2.2.2.1
  obtain ⟨tn, t1, t5, t2, t3⟩ := ht
  unfold vX4_digest
  refine mu_of (fun a => ∃ q : Nat, a = (hsh (fun k => vCn b d (n : Int) (k : Int)) q 139, (q : Int), σ) ∧ q ≤ 10) (fun a => 10 - a.2.1.toNat) ?_ _ ⟨0, rfl, by omega⟩
  rintro K1 _ ⟨q, rfl, hq⟩ hK1
  unfold vX4_digest_6
  refine ⟨⟨by omega, by omega⟩, fun z => ?_, fun z => okCn (T := T) (by omega) hw h.1 h.2.2.2.2.1 ⟨by omega, by omega⟩ ?_⟩
  · have hq10 : q = 10 := by omega
    subst hq10
    refine mu_of (fun a => ∃ q : Nat, a = (hsh (fun k => vGl b ((k / 8 : Nat) : Int) ((k % 8 : Nat) : Int)) (8 * q) (dg1 b d n), (q : Int), σ) ∧ (q : Int) ≤ b 3 0) (fun a => 3 - a.2.1.toNat) ?_ _ ⟨0, rfl, by omega⟩
    rintro K2 _ ⟨g, rfl, hg⟩ hK2
    unfold vX4_digest_33 vX0_glasses
    dsimp only
    rw [show σ 8 57 = b 3 0 from h.1.n 0 (by omega)]
    refine ⟨⟨by omega, by omega⟩, ⟨by omega, by omega⟩, fun z1 => ?_, fun z1 => ?_⟩
    · have hgn : g = (b 3 0).toNat := by omega
      subst hgn
      refine mu_of (fun a => ∃ q : Nat, a = (hsh (fun k => vEv b ((k / 3 : Nat) : Int) ((k % 3 : Nat) : Int)) (3 * q) (dg2 b d n), (q : Int), σ) ∧ (q : Int) ≤ aListed b) (fun a => 12 - a.2.1.toNat) ?_ _ ⟨0, rfl, by omega⟩
      rintro K3 _ ⟨i, rfl, hi⟩ hK3
      unfold vX4_digest_83
      refine okListed' (by omega) hw h.1 ⟨⟨by omega, by omega⟩, ⟨by omega, by omega⟩, fun z2 => ?_, fun z2 => ?_⟩
      · have hil : i = (aListed b).toNat := by omega
        subst hil
        refine hRP _ (fun σ' hf hr => ?_)
        refine mu_of (fun a => ∃ (q : Nat) (τ : xS), a = (hsh (mcv b) q (dg3 b d n), ((q + 1 : Nat) : Int), τ) ∧ q ≤ 20 ∧ FP σ τ ∧ RDC τ b) (fun a => 21 - a.2.1.toNat) ?_ _ ⟨0, σ', rfl, by omega, hf, hr⟩
        rintro K4 _ ⟨c, τ, rfl, hc, hf, hr⟩ hK4
        unfold vX4_digest_138
        refine ⟨⟨by omega, by omega⟩, fun z3 => ?_, fun z3 => ?_⟩
        · have hc20 : c = 20 := by omega
          subst hc20
          refine rdc_within (most := 3) hw hr (by omega) (fun u w hf2 hr2 hs => ?_)
          obtain ⟨N, rfl, hN, hb⟩ := hs
          have hp := pcB_le N 48
          have hfu := hf.trans hf2
          have u1 := hfu 1 (by omega) (by omega) (by omega) (by omega) (by omega) (by omega)
          have u2 := hfu 2 (by omega) (by omega) (by omega) (by omega) (by omega) (by omega)
          refine ok_bits hN ⟨⟨by omega, by omega⟩, ?_⟩
          refine mu_of (fun a => ∃ q : Nat, a = (hsh t q (31 * dg4 b d n + (pcB N 48 : Int)), (q : Int), u) ∧ q ≤ n) (fun a => 60 - a.2.1.toNat) ?_ _ ⟨0, rfl, by omega⟩
          rintro K5 _ ⟨i, rfl, hi⟩ hK5
          unfold vX4_digest_184 vX3_length vX3_byteAt
          dsimp only
          rw [u1, t1]
          refine ⟨⟨by omega, by omega⟩, ⟨by omega, by omega⟩, fun z4 => ?_, fun z4 => ⟨⟨by omega, by omega⟩, fun z5 => by omega, fun _ => ⟨⟨by omega, by omega⟩, fun z5 => absurd z5 z4, fun _ => ⟨by omega, ?_⟩⟩⟩⟩
          · have hin : i = n := by omega
            subst hin
            exact k u N hfu hr2 hN hb
          · have b1 := t3 i (by omega)
            rw [u2, Int.toNat_natCast, (t2 i (by omega)).1]
            exact ⟨⟨by omega, by omega⟩, hK5 _ ⟨i + 1, rfl, by omega⟩ (by show 60 - ((i : Int) + 1).toNat < 60 - ((i : Int)).toNat; omega)⟩
        · refine rdc_least hw hr ⟨by omega, by omega⟩ (fun u K' i' v hf2 hr2 _ hm _ => ?_)
          have hvr : -1 ≤ v ∧ v ≤ 120 := by
            rcases hm with ⟨e1, _⟩ | ⟨c, e1, c1, _⟩ <;> omega
          refine ⟨⟨by omega, by omega⟩, hK4 _ ⟨c + 1, u, ?_, by omega, hf.trans hf2, hr2⟩ (by show 21 - (((c + 1 : Nat) : Int) + 1).toNat < 21 - (((c + 1 : Nat) : Int)).toNat; omega)⟩
          rw [mcv_is (by omega) hm]
          rfl
      · refine mu_of (fun a => ∃ w : Nat, a = (hsh (fun k => vEv b ((k / 3 : Nat) : Int) ((k % 3 : Nat) : Int)) (3 * i + w) (dg2 b d n), (i : Int), (w : Int), σ) ∧ w ≤ 3) (fun a => 3 - a.2.2.1.toNat) ?_ _ ⟨0, rfl, by omega⟩
        rintro K4 _ ⟨w, rfl, hwl⟩ hK4
        unfold vX4_digest_97
        refine ⟨⟨by omega, by omega⟩, fun z3 => ?_, fun z3 => ?_⟩
        · have hw3 : w = 3 := by omega
          subst hw3
          exact hK3 _ ⟨i + 1, rfl, by omega⟩ (by show 12 - ((i : Int) + 1).toNat < 12 - ((i : Int)).toNat; omega)
        · refine okEv (by omega) hw h.1 ⟨by omega, by omega⟩ ⟨by omega, by omega⟩ ⟨vEv_rng (by omega) hw h.1 hn.2.2, hK4 _ ⟨w + 1, ?_, by omega⟩ (by show 3 - ((w : Int) + 1).toNat < 3 - ((w : Int)).toNat; omega)⟩
          have e1 : (3 * i + w) / 3 = i := by omega
          have e2 : (3 * i + w) % 3 = w := by omega
          show _ = (31 * hsh _ (3 * i + w) _ + vEv b (((3 * i + w) / 3 : Nat) : Int) (((3 * i + w) % 3 : Nat) : Int), _, _, _)
          rw [e1, e2]
          rfl
    · refine mu_of (fun a => ∃ w : Nat, a = (hsh (fun k => vGl b ((k / 8 : Nat) : Int) ((k % 8 : Nat) : Int)) (8 * g + w) (dg1 b d n), (g : Int), (w : Int), σ) ∧ w ≤ 8) (fun a => 8 - a.2.2.1.toNat) ?_ _ ⟨0, rfl, by omega⟩
      rintro K4 _ ⟨w, rfl, hwl⟩ hK4
      unfold vX4_digest_47
      refine ⟨⟨by omega, by omega⟩, fun z3 => ?_, fun z3 => ?_⟩
      · have hw3 : w = 8 := by omega
        subst hw3
        exact hK2 _ ⟨g + 1, rfl, by omega⟩ (by show 3 - ((g : Int) + 1).toNat < 3 - ((g : Int)).toNat; omega)
      · refine okGl hw h.1 ⟨by omega, by omega⟩ ⟨by omega, by omega⟩ ⟨vGl_rng hw, hK4 _ ⟨w + 1, ?_, by omega⟩ (by show 8 - ((w : Int) + 1).toNat < 8 - ((w : Int)).toNat; omega)⟩
        have e1 : (8 * g + w) / 8 = g := by omega
        have e2 : (8 * g + w) % 8 = w := by omega
        show _ = (31 * hsh _ (8 * g + w) _ + vGl b (((8 * g + w) / 8 : Nat) : Int) (((8 * g + w) % 8 : Nat) : Int), _, _, _)
        rw [e1, e2]
        rfl
  · rw [t1]
    exact ⟨vCn_rng hT0 hw (by omega) tt hd tn, hK1 _ ⟨q + 1, rfl, by omega⟩ (by show 10 - ((q : Int) + 1).toNat < 10 - ((q : Int)).toNat; omega)⟩
theorem dg_model {u : xS} {N : Nat} {Q : Int → xS → Prop} (hT0 : T ≤ 1000000) (h : KB T σ b d H) (hn : NRx σ) (hMT : MT σ) (ht : TX σ n t) (hf : FP σ u) (hN : N < 2199023255552) (hb : ∀ r, Nat.testBit N r = true ↔ (1 ≤ r ∧ r ≤ 40) ∧ Can (uU (pA b) (pS b)) (pA b) (pS b) r 3 (pv b 0) (pv b 1) (pv b 2)) (k : ∀ v, FD u v → RDY v b → Q (dg6 b d n t N) v) : vX5_digest u Q := by
  have hw := h.2.2.1
  have hnn := hw.1
  have hd := h.2.2.2.2.1.1
  have hl := aListed_in hw
  have tt := h.2.2.2.2.2.2.1
  have hm := h.2.1
  have hHM := h.2.2.2.2.2.1
  obtain ⟨tn, t1, t5, t2, t3⟩ := ht
  have hpre := pre_of h hn hMT hf
  have u20 := hf 20 (by omega) (by omega) (by omega) (by omega) (by omega) (by omega)
  have u21 := hf 21 (by omega) (by omega) (by omega) (by omega) (by omega) (by omega)
  have u22 := hf 22 (by omega) (by omega) (by omega) (by omega) (by omega) (by omega)
  have u24 := hf 24 (by omega) (by omega) (by omega) (by omega) (by omega) (by omega)
  have hub : CB (σ 8) b := h.1
  have mb : ∀ τ, FD u τ → MB (τ 21) b := fun τ hτ => by
    rw [hτ.1 21 (by omega) (by omega) (by omega) (by omega) (by omega) (by omega), u21]
    exact hm
  have hmm : ∀ τ, FD u τ → HM τ d H := fun τ hτ => hHM.congr (by rw [hτ.2 3 (by omega) (by omega) (by omega), u20]) (by rw [hτ.1 22 (by omega) (by omega) (by omega) (by omega) (by omega) (by omega), u22])
  have h5 : ∀ τ, FD u τ → τ 20 5 = (n : Int) := fun τ hτ => by rw [hτ.2 5 (by omega) (by omega) (by omega), u20, t5]
  have h24 : ∀ τ, FD u τ → τ 24 = σ 24 := fun τ hτ => by rw [hτ.1 24 (by omega) (by omega) (by omega) (by omega) (by omega) (by omega), u24]
  unfold vX5_digest
  intro s0 hs0
  have i0 : FD u s0 ∧ PRE s0 b ∧ s0 20 21 = 139 := by
    rw [hs0]
    exact ⟨(FD.refl u).mix 139, hpre.mix 139, by rw [xup_app, if_pos ⟨rfl, rfl⟩]⟩
  clear hs0
  refine mu_of (fun a => ∃ (q : Nat) (τ : xS), a = ((q : Int), τ) ∧ q ≤ 10 ∧ FD u τ ∧ PRE τ b ∧ τ 20 21 = hsh (fun k => vCn b d (n : Int) (k : Int)) q 139) (fun a => 10 - a.1.toNat) ?_ _ ⟨0, s0, rfl, by omega, i0.1, i0.2.1, i0.2.2⟩
  rintro K1 _ ⟨q, τ, rfl, hq, hfd, hp, hh⟩ hK1
  unfold vX5_digest_9
  refine ⟨⟨by omega, by omega⟩, fun z => ?_, fun z => mkCn hw (mb τ hfd) (hmm τ hfd) ⟨by omega, by omega⟩ ?_⟩
  · have hq10 : q = 10 := by omega
    subst hq10
    refine mu_of (fun a => ∃ (q : Nat) (τ : xS), a = ((q : Int), τ) ∧ q ≤ 8 * (b 3 0).toNat ∧ FD u τ ∧ PRE τ b ∧ τ 20 21 = hsh (fun k => vGl b ((k / 8 : Nat) : Int) ((k % 8 : Nat) : Int)) q (dg1 b d n)) (fun a => 24 - a.1.toNat) ?_ _ ⟨0, τ, rfl, by omega, hfd, hp, hh⟩
    clear hfd hp hh
    rintro K2 _ ⟨q, τ, rfl, hq, hfd, hp, hh⟩ hK2
    unfold vX5_digest_32
    dsimp only
    rw [show τ 21 21 = b 3 0 from (mb τ hfd).n 0 (by omega)]
    refine ⟨⟨by omega, by omega⟩, ⟨by omega, by omega⟩, fun z1 => ?_, fun z1 => ?_⟩
    · have hgn : q = 8 * (b 3 0).toNat := by omega
      subst hgn
      refine mu_of (fun a => ∃ (q : Nat) (τ : xS), a = ((q : Int), τ) ∧ q ≤ 3 * (aListed b).toNat ∧ FD u τ ∧ PRE τ b ∧ τ 20 21 = hsh (fun k => vEv b ((k / 3 : Nat) : Int) ((k % 3 : Nat) : Int)) q (dg2 b d n)) (fun a => 36 - a.1.toNat) ?_ _ ⟨0, τ, rfl, by omega, hfd, hp, hh⟩
      clear hfd hp hh
      rintro K3 _ ⟨q, τ, rfl, hq, hfd, hp, hh⟩ hK3
      unfold vX5_digest_70
      dsimp only
      rw [show τ 21 27 = aListed b from (mb τ hfd).2.2.1]
      refine ⟨⟨by omega, by omega⟩, ⟨by omega, by omega⟩, fun z2 => ?_, fun z2 => ?_⟩
      · have hgn : q = 3 * (aListed b).toNat := by omega
        subst hgn
        refine mu_of (fun a => ∃ (q : Nat) (τ : xS), a = (((q + 1 : Nat) : Int), τ) ∧ q ≤ 20 ∧ FD u τ ∧ PRE τ b ∧ τ 20 21 = hsh (mcv b) q (dg3 b d n)) (fun a => 21 - a.1.toNat) ?_ _ ⟨0, τ, rfl, by omega, hfd, hp, hh⟩
        clear hfd hp hh
        rintro K4 _ ⟨q, τ, rfl, hq, hfd, hp, hh⟩ hK4
        unfold vX5_digest_105
        refine ⟨⟨by omega, by omega⟩, fun z3 => ?_, fun z3 => ?_⟩
        · have hq20 : q = 20 := by omega
          subst hq20
          refine mk_measOf (most := 3) hp ⟨⟨by decide, by decide⟩, by decide⟩ (by omega) hN hb (fun ρ v hfm hrd hms => ?_)
          have hv : v = (pcB N 48 : Int) := by
            rcases hms with ⟨_, e⟩ | ⟨e, _⟩
            · exact e
            · exact absurd rfl e
          subst hv
          have hpl := pcB_le N 48
          refine ok_mix ⟨by omega, by omega⟩ ?_
          have hfd2 := (hfd.fm hfm).mix (31 * (ρ 20 21) + (pcB N 48 : Int))
          have hrd2 : RDY (xup ρ 20 21 (31 * (ρ 20 21) + (pcB N 48 : Int))) b := by
            obtain ⟨r1, r2, r3, r4, r5⟩ := hrd
            exact ⟨r1.congr (xup_ne (by omega)) (xup_ne (by omega)) (xup_ne (by omega)), by rw [xup_ne (by omega)]; exact r2, by rw [xup_app, if_neg (by omega)]; exact r3, by rw [xup_ne (by omega), xup_ne (by omega)]; exact r4, by rw [xup_ne (by omega)]; exact r5⟩
          have hh2 : xup ρ 20 21 (31 * (ρ 20 21) + (pcB N 48 : Int)) 20 21 = 31 * dg4 b d n + (pcB N 48 : Int) := by
            rw [xup_app, if_pos ⟨rfl, rfl⟩, hfm.2 21 (by omega) (by omega), hh]
            rfl
          generalize xup ρ 20 21 (31 * (ρ 20 21) + (pcB N 48 : Int)) = π at hfd2 hrd2 hh2 ⊢
          refine mu_of (fun a => ∃ (q : Nat) (τ : xS), a = ((q : Int), τ) ∧ q ≤ n ∧ FD u τ ∧ RDY τ b ∧ τ 20 21 = hsh t q (31 * dg4 b d n + (pcB N 48 : Int))) (fun a => 60 - a.1.toNat) ?_ _ ⟨0, π, rfl, by omega, hfd2, hrd2, hh2⟩
          rintro K5 _ ⟨i, τ, rfl, hi, hfd, hrd, hh⟩ hK5
          unfold vX5_digest_138
          dsimp only
          rw [h5 τ hfd]
          refine ⟨⟨by omega, by omega⟩, ⟨by omega, by omega⟩, fun z4 => ?_, fun z4 => ⟨by omega, ?_⟩⟩
          · have hin : i = n := by omega
            subst hin
            rw [hh]
            exact k τ hfd hrd
          · have b1 := t3 i (by omega)
            rw [h24 τ hfd, Int.toNat_natCast, (t2 i (by omega)).2]
            refine ok_mix ⟨by omega, by omega⟩ (hK5 _ ⟨i + 1, _, rfl, by omega, hfd.mix _, ?_, ?_⟩ (by show 60 - ((i : Int) + 1).toNat < 60 - ((i : Int)).toNat; omega))
            · obtain ⟨r1, r2, r3, r4, r5⟩ := hrd
              exact ⟨r1.congr (xup_ne (by omega)) (xup_ne (by omega)) (xup_ne (by omega)), by rw [xup_ne (by omega)]; exact r2, by rw [xup_app, if_neg (by omega)]; exact r3, by rw [xup_ne (by omega), xup_ne (by omega)]; exact r4, by rw [xup_ne (by omega)]; exact r5⟩
            · rw [xup_app, if_pos ⟨rfl, rfl⟩, hh]
              rfl
        · refine mk_costOf hp ⟨by omega, by omega⟩ (fun ρ v hfm hrd hmc => ?_)
          have hvr : -1 ≤ v ∧ v ≤ 120 := by
            rcases hmc with ⟨e1, _⟩ | ⟨c, e1, c1, _⟩ <;> omega
          refine ok_mix ⟨by omega, by omega⟩ (hK4 _ ⟨q + 1, _, rfl, by omega, (hfd.fm hfm).mix _, (hp.next hfm hrd).mix _, ?_⟩ (by show 21 - (((q + 1 : Nat) : Int) + 1).toNat < 21 - (((q + 1 : Nat) : Int)).toNat; omega))
          rw [xup_app, if_pos ⟨rfl, rfl⟩, hfm.2 21 (by omega) (by omega), hh, mcv_is (by omega) hmc]
          rfl
      · rw [show (3 : Int) = ((3 : Nat) : Int) from rfl, jdiv_nat (by omega) (by omega) (by omega), jrem_nat (by omega) (by omega) (by omega) (by omega), Int.toNat_natCast]
        refine mkEv hw (mb τ hfd) ⟨by omega, by omega⟩ ⟨by omega, by omega⟩ (ok_mix (vEv_rng (by omega) hw hub hn.2.2) (hK3 _ ⟨q + 1, _, rfl, by omega, hfd.mix _, hp.mix _, ?_⟩ (by show 36 - ((q : Int) + 1).toNat < 36 - ((q : Int)).toNat; omega)))
        rw [xup_app, if_pos ⟨rfl, rfl⟩, hh]
        rfl
    · rw [show (8 : Int) = ((8 : Nat) : Int) from rfl, jdiv_nat (by omega) (by omega) (by omega), jrem_nat (by omega) (by omega) (by omega) (by omega), Int.toNat_natCast]
      refine mkGl hw (mb τ hfd) ⟨by omega, by omega⟩ ⟨by omega, by omega⟩ (ok_mix (vGl_rng hw) (hK2 _ ⟨q + 1, _, rfl, by omega, hfd.mix _, hp.mix _, ?_⟩ (by show 24 - ((q : Int) + 1).toNat < 24 - ((q : Int)).toNat; omega)))
      rw [xup_app, if_pos ⟨rfl, rfl⟩, hh]
      rfl
  · rw [h5 τ hfd]
    refine ok_mix (vCn_rng hT0 hw (by omega) tt hd tn) (hK1 _ ⟨q + 1, _, rfl, by omega, hfd.mix _, hp.mix _, ?_⟩ (by show 10 - ((q : Int) + 1).toNat < 10 - ((q : Int)).toNat; omega))
    rw [xup_app, if_pos ⟨rfl, rfl⟩, hh]
    rfl
theorem cl_afterD {u v b : xS} (h : RDC u b) (hf : FD u v) : PCl v := h.cl.congr (fun r h1 h2 => hf.1 r (by omega) (by omega) (by omega) (by omega) (by omega) (by omega))
theorem hs21 (hT0 : T ≤ 1000000) (h : KB T σ b d H) (hn : NRx σ) (hT : MT σ) (ht : TX σ n t) (hP : P = true → PCl σ) (k : ∀ v, Fpl σ v → PCl v → MT v → K true v) : lawS21 P x y z σ K := by
  have hw := h.2.2.1
  unfold lawS21
  cases P with
  | true => exact dg_class hT0 h hn ht (rpp_ok hw h.1 (hP rfl)) (fun u N hf hr hN hb => dg_model hT0 h hn hT ht hf hN hb (fun v hfd hrd => ⟨rfl, k v (fpl_fd hf hfd) (cl_afterD hr hfd) hrd.MT⟩))
  | false => exact dg_class hT0 h hn ht (rpn_ok hw h.1) (fun u N hf hr hN hb => ⟨rfl, dg_model hT0 h hn hT ht hf hN hb (fun v hfd hrd => ⟨rfl, k v (fpl_fd hf hfd) (cl_afterD hr hfd) hrd.MT⟩)⟩)
end
