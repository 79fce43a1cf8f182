/-! the law -/
set_option maxHeartbeats 4000000 in
theorem lk122 {K : Int × Int × xS → Prop} {N : Nat} {σ b : xS} {x3 : Int} (hN : N ≤ 34) (h : LI N σ b) (h3 : x3 = b 3 2) (k : N < 34 → ∀ x σ' b', LI (N + 1) σ' b' → x = b' 3 2 → K (x, (N : Int) + 1, σ')) : vL_law_122 (fun v _ => v = 1) K (x3, (N : Int), σ) := by
  have hl := h.2.2
  have hc := h.1
  have ha := h.2.1
  have hw := hl.1
  have hn := hw.1
  have hm := hw.2.2.1
  have ht := hl.2.2.1
  unfold vL_law_122
  refine ⟨⟨by omega, by omega⟩, fun _ => ?_, fun r => ⟨⟨by omega, by omega⟩, fun x hx => ?_⟩⟩
  · refine cPassBad ⟨by omega, by omega⟩ (Or.inr (by omega)) ⟨⟨by omega, by omega⟩, fun z => absurd rfl z, fun _ => ?_⟩
    obtain ⟨hb, d, H, hh⟩ := id hc
    refine okCn (T := 0) (by omega) hw hb hh ⟨by omega, by omega⟩ ?_
    rw [vCn, if_pos (Or.inr (by omega))]
    refine ⟨⟨by omega, by omega⟩, fun z => absurd rfl z, fun _ => ?_⟩
    exact cLoosenBad hw hc ⟨by omega, by omega⟩ (Or.inr (by omega)) ⟨⟨by omega, by omega⟩, fun z => absurd rfl z, fun _ => rfl⟩
  · have hN' : N < 34 := by omega
    have e21 : σ 40 21 = b 3 0 := ha.2.1
    have kk : ∀ σ' b', LI (N + 1) σ' b' → x3 = b' 3 2 → K (x3, (N : Int) + 1, σ') := fun σ' b' => k hN' x3 σ' b'
    have stay : vL_law_545 K (fun v _ => v = 1) x3 (N : Int) 1 σ := lk545 hN' ⟨hc, ha, hl.up⟩ h3 (kk _ _ ⟨hc, ha, hl.up⟩ h3)
    rw [e21]
    refine akLow ⟨by omega, by omega⟩ (fun i hi => ?_)
    refine akLow ⟨by omega, by omega⟩ (fun c hc13 => ?_)
    have hi3 := hw.n3 hi
    refine ⟨⟨by omega, by omega⟩, fun _ => ?_, fun _ => ?_, fun _ => ?_, fun _ => ?_, fun _ => ?_, fun _ => ?_, fun _ => ?_, fun _ => ?_, fun _ => ?_, fun _ => ?_, fun _ => ?_⟩
    · -- a turn
      have P := akTurns (σ := σ) (m := σ 40) (g := (i : Int)) (Q := fun σ66 => vX4_turn (i : Int) σ66 (fun r67 σ68 => (0 ≤ ((7 * (i : Int)) + 1) ∧ ((7 * (i : Int)) + 1) < 64) ∧ (rng r67 ∧ (rng (σ68 40 (((7 * (i : Int)) + 1).toNat)) ∧ ((¬ r67 = (σ68 40 (((7 * (i : Int)) + 1).toNat)) → vL_law_543 K (fun v _ => v = 1) x3 (N : Int) 0 σ68) ∧ (r67 = (σ68 40 (((7 * (i : Int)) + 1).toNat)) → vL_law_543 K (fun v _ => v = 1) x3 (N : Int) 1 σ68)))))) hw ha i hi rfl
      rw [xset_self] at P
      refine P (fun m' h' => ?_)
      refine cTurn hw (hc.a m') i rfl hi (fun σ' hc' hf => ?_)
      have ha' : AB (σ' 40) (aTurn b (b i 5)) := by rw [hf.a]; exact h'
      have hl' := hl.turn (b i 5)
      have e2 : x3 = aTurn b (b i 5) 3 2 := by rw [aTurn_3 hn.2, if_neg (by omega)]; exact h3
      have hin' : (i : Int) < aTurn b (b i 5) 3 0 := by rw [aTurn_3 hn.2, if_neg (by omega)]; exact hi
      have hv := hl'.1.2.2.2.2 i hin'
      rw [show (7 * (i : Int) + 1).toNat = 7 * i + 1 by omega, ha'.r1 hi3 hin']
      unfold vL_law_543
      exact ⟨⟨by omega, by omega⟩, ⟨by omega, by omega⟩, ⟨by omega, by omega⟩, fun z => absurd rfl z, fun _ => lk545 hN' ⟨hc', ha', hl'⟩ e2 (kk _ _ ⟨hc', ha', hl'⟩ e2)⟩
    · rw [e21]
      exact akLow ⟨by omega, by omega⟩ (fun j hj => lk_fixes hN' h h3 kk i j hi hj)
    · refine akLow ⟨by omega, by omega⟩ (fun r1 hr1 => ⟨⟨by omega, by omega⟩, fun _ => ?_, fun _ => lk_loosens hN' h h3 kk i hi⟩)
      refine akLow ⟨by omega, by omega⟩ (fun r2 hr2 => ⟨⟨by omega, by omega⟩, fun _ => stay, fun _ => ?_⟩)
      exact akLow ⟨by omega, by omega⟩ (fun r3 hr3 => lk_glasses hN' h h3 kk _ ⟨by omega, by omega⟩)
    · exact akLow ⟨by omega, by omega⟩ (fun r1 hr1 => lk_amount hN' h h3 kk i hi _ ⟨by omega, by omega⟩)
    · exact akLow ⟨by omega, by omega⟩ (fun r1 hr1 => akLow ⟨by omega, by omega⟩ (fun r2 hr2 => lk_kind hN' h h3 kk i hi _ _ ⟨by omega, by omega⟩ ⟨by omega, by omega⟩))
    · -- a tap
      have hv := hw.2.2.2.2 i hi
      refine cTap hw hc i rfl hi (fun σ' hc' hf => ?_)
      have e40 : σ' 40 = σ 40 := hf 40 (by omega) (by omega) (by omega)
      have P := akTaps (σ := σ') (m := σ' 40) (b := b) (g := (i : Int)) (Q := fun r110 σ111 => rng (b i 4) ∧ (rng r110 ∧ ((¬ b i 4 = r110 → vL_law_545 K (fun v _ => v = 1) x3 (N : Int) 0 σ111) ∧ (b i 4 = r110 → vL_law_545 K (fun v _ => v = 1) x3 (N : Int) 1 σ111)))) (by rw [e40]; exact ha) i hi3 hi rfl
      rw [xset_self] at P
      refine P (fun m' h' => ?_)
      have hc2 : CHx (xset σ' 40 m') (aTap b i) := hc'.a m'
      have ha2 : AB (xset σ' 40 m' 40) (aTap b i) := by rw [xset_eq]; exact h'
      have hl' := hl.tap i hi3
      have e2 : x3 = aTap b i 3 2 := by rw [aTap_app, if_neg (by omega), if_neg (by omega)]; exact h3
      exact ⟨⟨by omega, by omega⟩, ⟨by omega, by omega⟩, fun z => absurd rfl z, fun _ => lk545 hN' ⟨hc2, ha2, hl'⟩ e2 (kk _ _ ⟨hc2, ha2, hl'⟩ e2)⟩
    · -- a mark
      refine cMark hc (fun σ' hc' hf => ?_)
      have e40 : σ' 40 = σ 40 := hf 40 (by omega) (by omega) (by omega)
      have o : ∀ r p : Nat, (r ≠ 3 ∨ p ≠ 2) → aMark b r p = b r p := fun r p hr => by unfold aMark; rw [xup_app, if_neg (by omega)]
      have ha' : AB (σ' 40) (aMark b) := by
        rw [e40]
        exact ha.congr (fun i p _ hi3 _ => o i p (by omega)) (fun i p _ hp => o i p hp)
      have hl' : LIb (N + 1) (aMark b) := hl.rest hw.mark (fun r p _ hp => o r p (by omega))
      refine ⟨⟨by omega, by omega⟩, ⟨by omega, by omega⟩, fun z => absurd h3.symm z, fun _ => ?_⟩
      unfold vL_law_394
      have e22 : σ' 40 22 = b 3 1 := by rw [e40]; exact ha.2.2.1
      have e2 : aMark b 3 2 = b 3 1 := by unfold aMark; rw [xup_app, if_pos ⟨rfl, rfl⟩]
      rw [e22]
      exact lk545 hN' ⟨hc', ha', hl'⟩ e2.symm (k hN' _ _ _ ⟨hc', ha', hl'⟩ e2.symm)
    · exact lk404 hN' h h3 kk
    · exact lk404 hN' h h3 kk
    · unfold vL_law_455
      exact akLow ⟨by omega, by omega⟩ (fun r1 hr1 => ⟨⟨by omega, by omega⟩, fun _ => lk_pass hN' h h3 kk _ _ ⟨by omega, by omega⟩, fun _ => lk_pass hN' h h3 kk _ _ ⟨by omega, by omega⟩⟩)
    · unfold vL_law_455
      exact akLow ⟨by omega, by omega⟩ (fun r1 hr1 => ⟨⟨by omega, by omega⟩, fun _ => lk_pass hN' h h3 kk _ _ ⟨by omega, by omega⟩, fun _ => lk_pass hN' h h3 kk _ _ ⟨by omega, by omega⟩⟩)
theorem b01_li : LIb 0 b01 := by
  refine ⟨b01_wf, fun e he => ?_, by decide, by decide, by decide⟩
  have : b01 3 3 = 0 := by decide
  omega
theorem b01_unt : aUnt b01 = 0 := (aUnt_0 b01_wf).mpr (fun i hi hr => by
  have h3 : b01 3 0 = 3 := by decide
  have h1 := hr.1
  rw [h3] at hi
  rcases (show i = 0 ∨ i = 1 ∨ i = 2 by omega) with rfl | rfl | rfl <;> exact absurd h1 (by decide))
set_option maxHeartbeats 4000000 in
theorem law_ok : ∀ s1 : xS, s1 = xset (fun _ _ => 0) 0 (fun _ => 0) → vX4_init s1 (fun u => ∀ s2 : xS, s2 = xset u 40 (fun _ => 0) → vL_law s2 (fun v _ => v = 1)) := by
  intro s1 _
  refine ok_init (fun u hcb h1 h5 s2 e2 => ?_)
  rw [e2]
  have hw := b01_wf
  have hn : b01 3 0 = 3 := by decide
  have hm : b01 3 2 = -1 := by decide
  unfold vL_law
  refine akBegins (fun m' ha => ?_)
  have hh : ∀ τ : xS, τ 5 = u 5 → HC τ 0 (fun _ => b01) := fun τ ht => ⟨by omega, 0, by omega, by rw [ht]; exact h5 1, by rw [ht]; exact h5 2, fun k hk => absurd hk (by omega)⟩
  have hc : CHx (xset u 40 m') b01 := ⟨by rw [xset_ne (by omega)]; exact hcb, 0, fun _ => b01, hh _ (by rw [xset_ne (by omega)])⟩
  have ha' : AB (xset u 40 m' 40) b01 := by rw [xset_eq]; exact ha
  have hh' := hh (xset u 40 m') (by rw [xset_ne (by omega)])
  generalize xset u 40 m' = τ at hc ha' hh' ⊢
  refine cAwait (by omega) hw hc (by decide) (fun _ => ⟨⟨by omega, by omega⟩, fun z => absurd rfl z, fun _ => ?_⟩) (fun z => absurd b01_unt z)
  obtain ⟨hb, d, H, hh2⟩ := id hc
  refine okCn (T := 0) (by omega) hw hb hh2 ⟨by omega, by omega⟩ ?_
  rw [show vCn b01 d (τ 1 1) 3 = -1 from rfl]
  refine ⟨⟨by omega, by omega⟩, fun z => absurd rfl z, fun _ => ?_⟩
  unfold vX4_undo
  refine okRestore hh' (fun _ => ⟨rng0, fun _ => ?_, fun w => absurd rfl w⟩) (fun w => absurd w (by omega))
  refine ⟨⟨by omega, by omega⟩, fun z => absurd rfl z, fun _ => ?_⟩
  refine cTurnBad hw hc ⟨by omega, by omega⟩ (Or.inr (by omega)) ⟨⟨by omega, by omega⟩, fun z => absurd rfl z, fun _ => ?_⟩
  refine cTapBad hw hc ⟨by omega, by omega⟩ (Or.inl (by omega)) ⟨⟨by omega, by omega⟩, fun z => absurd rfl z, fun _ => ?_⟩
  refine cPassBad rng0 (Or.inl (by omega)) ⟨⟨by omega, by omega⟩, fun z => absurd rfl z, fun _ => ?_⟩
  refine cFixBad hw hc rng0 ⟨by omega, by omega⟩ (Or.inr (by omega)) ⟨⟨by omega, by omega⟩, fun z => absurd rfl z, fun _ => ?_⟩
  refine okEv (by omega) hw hb ⟨by omega, by omega⟩ rng0 ?_
  rw [vEv, if_pos (Or.inl (by omega))]
  refine ⟨⟨by omega, by omega⟩, fun z => absurd rfl z, fun _ => ?_⟩
  refine okEv (by omega) hw hb rng0 ⟨by omega, by omega⟩ ?_
  rw [vEv, if_pos (Or.inr (Or.inr (by omega)))]
  refine ⟨⟨by omega, by omega⟩, fun z => absurd rfl z, fun _ => ?_⟩
  refine akTold (by omega) hw hc ha' b01_li.2.1 (by decide) (by decide) ?_
  refine ⟨⟨by omega, by omega⟩, fun _ => ?_, fun z => absurd z (by omega)⟩
  refine mu_of (fun a => ∃ (N : Nat) (x : Int) (s b : xS), a = (x, (N : Int), s) ∧ N ≤ 34 ∧ LI N s b ∧ x = b 3 2) (fun a => (34 - a.2.1).toNat) ?_ _ ⟨0, -1, τ, b01, rfl, by omega, ⟨hc, ha', b01_li⟩, hm.symm⟩
  rintro K _ ⟨N, x, s, b, rfl, hN, hL, hx⟩ hK
  exact lk122 hN hL hx (fun hN' x' s' b' hL' hx' => hK _ ⟨N + 1, x', s', b', by push_cast; rfl, by omega, hL', hx'⟩ (by show (34 - ((N : Int) + 1)).toNat < (34 - (N : Int)).toNat; omega))
theorem whole_start {p : Program} {e : Env} {s : State} {m : MethodId} {below : List Frame} {meth : Method} {c : Code} (l : Launch) (_ : l.flags = flags0) {b L : Nat} {xs : Nat → Int32} (hL : L ≤ 260) (C0 : lw_At p s m meth c b L xs) : W p l e room_1 s m #[Value.ref b] below meth c s.heap [] 0 0 (lw_Z below #[Value.ref b] s) (entryFrame m ([Value.ref b] : List Value).toArray 10) :=
  whole_start_of law_ok l hL C0
