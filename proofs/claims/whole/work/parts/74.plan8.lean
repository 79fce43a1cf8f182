/-! plans: both sides -/
theorem p_bound {b : xS} (hw : WF b) {r c : Nat} (hr : 1 ≤ r ∧ r ≤ 40) (K : Nat) (hroom : 11725 < (K + 1) * cm (pA b) 4096) (hK : K ≤ 121) (h : Can (uU (pA b) (pS b)) (pA b) (pS b) r c (pv b 0) (pv b 1) (pv b 2)) : Can (uU (pA b) (pS b)) (pA b) (pS b) r (K - 1) (pv b 0) (pv b 1) (pv b 2) := by
  have hA := pA_ok hw
  have hv := pv_le hw
  by_cases hall : 0 < pA b 0 ∧ 0 < pA b 1 ∧ 0 < pA b 2
  · have eA : ∀ g, g < 3 → pA b g = pa b g := fun g hg => by unfold pA; exact f3_g (pa b) g hg
    have eS : ∀ g, g < 3 → pS b g = pz b g := fun g hg => by unfold pS; exact f3_g (pz b) g hg
    have live : ∀ g : Nat, g < 3 → (g : Int) < b 3 0 ∧ b g 2 ≠ 2 := fun g hg => by
      by_cases q : (g : Int) < b 3 0 ∧ b g 2 ≠ 2
      · exact q
      · have h1 := ((p_in hw g).2.2.2.2.1 q).1
        have h2 := eA g hg
        rcases (show g = 0 ∨ g = 1 ∨ g = 2 by omega) with rfl | rfl | rfl <;> omega
    have hz : ∀ g : Nat, g < 3 → (pz b g : Int) = b g 5 := fun g hg => ((p_in hw g).2.2.2.2.2 (live g hg)).2.1
    have hroot : ∀ g : Nat, g < 3 → pS b (pS b g) = pS b g := fun g hg => by
      have hro := hw.root (live g hg).1
      have h1 := hz g hg
      have h2 : pz b g < 3 := by have := (p_in hw g).2.1; omega
      have h3 := hz (pz b g) h2
      have e5 : (b g 5).toNat = pz b g := by omega
      rw [eS g hg, eS (pz b g) h2]
      rw [e5] at hro
      omega
    rw [cm_mom hA hall.1 hall.2.1 hall.2.2] at hroom
    refine bound (S := pS b) (A := pA b) ?_ ?_ ?_ (hroot 2 (by omega)) (fun j hj => ⟨fun hu => ?_, fun hs => ⟨j, hj, ?_, hs⟩⟩) (fun g hg => ?_) hroom hr hv.1 hv.2.1 hv.2.2 h
    · rw [eS 0 (by omega)]
      have := (p_in hw 0).2.1
      omega
    · rw [eS 1 (by omega)]
      exact (p_in hw 1).2.1
    · rw [eS 2 (by omega)]
      exact (p_in hw 2).2.1
    · obtain ⟨g, hg, _, e⟩ := hu
      rw [← e]
      exact hroot g hg
    · rcases (show j = 0 ∨ j = 1 ∨ j = 2 by omega) with rfl | rfl | rfl
      · exact hall.1
      · exact hall.2.1
      · exact hall.2.2
    · rcases (show g = 0 ∨ g = 1 ∨ g = 2 by omega) with rfl | rfl | rfl
      · exact ⟨hall.1, hA.1⟩
      · exact ⟨hall.2.1, hA.2.1⟩
      · exact ⟨hall.2.2, hA.2.2⟩
  · have := cm_few hA hall
    have := Nat.mul_le_mul (show K + 1 ≤ 122 by omega) this
    omega
theorem PCl.congr {σ σ' : xS} (h : PCl σ) (he : ∀ r, 9 ≤ r → r ≤ 14 → σ' r = σ r) : PCl σ' := by
  have e9 := he 9 (by omega) (by omega)
  have e10 := he 10 (by omega) (by omega)
  have e11 := he 11 (by omega) (by omega)
  have e12 := he 12 (by omega) (by omega)
  have e13 := he 13 (by omega) (by omega)
  have e14 := he 14 (by omega) (by omega)
  unfold PCl PT T0 T1 T3 T4 T4K at h ⊢
  rw [e9, e10, e11, e12, e13, e14]
  exact h
/-- the class's planner stands for the bench as it is -/
def RDC (σ b : xS) : Prop := PB σ (pA b) (pS b) ∧ T4 σ (pA b) (pS b) ∧ TS σ (pA b) (pS b) (pv b 0) (pv b 1) (pv b 2) ∧ σ 9 0 = (shp b : Int)
theorem RDC.cl {σ b : xS} (h : RDC σ b) : PCl σ := by
  obtain ⟨⟨h1, h2, h3, h4, h5, h6⟩, h7, _, h9⟩ := h
  exact Or.inr ⟨pa b 0, pa b 1, pa b 2, pz b 0, pz b 1, pz b 2, h9, h1, h2, h3, h4, h5, h6, h7⟩
theorem RDC.next {σ σ' b : xS} {K i : Nat} (h : RDC σ b) (hf : Fq σ σ') (h4 : T4K σ' (pA b) (pS b) K i) : RDC σ' b := by
  obtain ⟨h1, _, h2, h3⟩ := h
  refine ⟨h1.congr hf, ⟨K, i, h4⟩, ?_, (hf.2 0 (by omega) (by omega)).trans h3⟩
  unfold TS
  rw [hf.1 13 (by omega) (by omega)]
  exact h2
theorem Fq.fp {σ σ' : xS} (h : Fq σ σ') : FP σ σ' := fun r a1 _ _ _ _ a6 => h.1 r a1 a6
def RPok (RP : xS → (xS → Prop) → Prop) (σ b : xS) : Prop := ∀ Q : xS → Prop, (∀ σ', FP σ σ' → RDC σ' b → Q σ') → RP σ Q
theorem rpp_ok {σ b : xS} (hw : WF b) (h : CB (σ 8) b) (hp : PCl σ) : RPok vRPP σ b := by
  intro Q k
  unfold vRPP
  refine ok_look hw h hp (fun σ' a b' c d => k σ' a ⟨⟨c.1, c.2.1, c.2.2.1, c.2.2.2.1, c.2.2.2.2.1, c.2.2.2.2.2.1⟩, c.2.2.2.2.2.2, d, b'⟩)
theorem rpn_ok {σ b : xS} (hw : WF b) (h : CB (σ 8) b) : RPok vRPN σ b := by
  intro Q k
  unfold vRPN vX2_init
  intro s1 e1 s2 e2 s3 e3 s4 e4 s5 e5 s6 e6 s7 e7
  have fp : FP σ s7 := fun r a1 a2 a3 a4 a5 a6 => by
    rw [e7, xset_ne a6, e6, xset_ne a5, e5, xset_ne a4, e4, xset_ne a3, e3, xset_ne a2, e2, xup_ne a1, e1, xset_ne a1]
  have e90 : s7 9 0 = -1 := by
    rw [e7, xset_ne (by omega), e6, xset_ne (by omega), e5, xset_ne (by omega), e4, xset_ne (by omega), e3, xset_ne (by omega), e2, xup_app, if_pos ⟨rfl, rfl⟩]
  refine ok_look hw (by rw [fp 8 (by omega) (by omega) (by omega) (by omega) (by omega) (by omega)]; exact h) (Or.inl e90) (fun σ' a b' c d => k σ' (fp.trans a) ⟨⟨c.1, c.2.1, c.2.2.1, c.2.2.2.1, c.2.2.2.2.1, c.2.2.2.2.2.1⟩, c.2.2.2.2.2.2, d, b'⟩)
theorem rdc_least {σ b : xS} {r : Nat} {Q : Int → xS → Prop} (hw : WF b) (h : RDC σ b) (hr : 1 ≤ r ∧ r ≤ 40) (k : ∀ σ' K i v, FP σ σ' → RDC σ' b → T4K σ' (pA b) (pS b) K i → MinC (pA b) (pS b) r (pv b 0) (pv b 1) (pv b 2) v → v < (K : Int) → Q v σ') : vX2_leastCost (r : Int) σ Q := by
  obtain ⟨K, i, h4⟩ := h.2.1
  have hv := pv_le hw
  exact ok_least h.1 h4 h.2.2.1 hv.1 hv.2.1 hv.2.2 hr (fun K c h1 h2 h3 => p_bound hw hr K h1 h2 h3) (fun σ' K' i' v hf h4' hm hlt => k σ' K' i' v hf.fp (h.next hf h4') h4' hm hlt)
theorem rdc_within {σ b : xS} {most : Nat} {Q : Int → xS → Prop} (hw : WF b) (h : RDC σ b) (hm : most ≤ 9) (k : ∀ σ' w, FP σ σ' → RDC σ' b → SPN (pA b) (pS b) most (pv b 0) (pv b 1) (pv b 2) w → Q w σ') : vX2_spansWithin (most : Int) σ Q := by
  obtain ⟨K, i, h4⟩ := h.2.1
  have hv := pv_le hw
  exact ok_within h.1 h4 h.2.2.1 hv.1 hv.2.1 hv.2.2 hm (fun σ' K' i' w hf h4' hs => k σ' w hf.fp (h.next hf h4') hs)
/-- frames of the plan calls -/
def Fpl (σ v : xS) : Prop := (∀ r, (r < 9 ∨ 14 < r) → r ≠ 20 → r ≠ 29 → r ≠ 30 → r ≠ 31 → r ≠ 32 → r ≠ 33 → v r = σ r) ∧ ∀ j, j ≠ 16 → j ≠ 20 → j ≠ 21 → v 20 j = σ 20 j
theorem fpl_of {σ u v : xS} (h1 : FP σ u) (h2 : FMd u v) : Fpl σ v := ⟨fun r a0 a1 a2 a3 a4 a5 a6 => by rw [h2.1 r a1 a2 a3 a4 a5 a6, h1 r (by omega) (by omega) (by omega) (by omega) (by omega) (by omega)], fun j a1 a2 _ => by rw [h2.2 j a1 a2, h1 20 (by omega) (by omega) (by omega) (by omega) (by omega) (by omega)]⟩
theorem Fpl.refl (σ : xS) : Fpl σ σ := ⟨fun _ _ _ _ _ _ _ _ => rfl, fun _ _ _ _ => rfl⟩
def NRx (σ : xS) : Prop := (∀ g, g < 3 → rng (σ 21 (7 * g + 6))) ∧ (∀ j, j < 9 → rng (σ 30 j)) ∧ ∀ j, j < 63 → rng (σ 8 j)
theorem pre_of {T : Int} {σ u b : xS} {d : Nat} {H : Nat → xS} (h : KB T σ b d H) (hn : NRx σ) (hT : MT σ) (hf : FP σ u) : PRE u b := by
  have e21 := hf 21 (by omega) (by omega) (by omega) (by omega) (by omega) (by omega)
  have e30 := hf 30 (by omega) (by omega) (by omega) (by omega) (by omega) (by omega)
  refine ⟨by rw [e21]; exact h.2.1, h.2.2.1, by rw [e21]; exact hn.1, by rw [e30]; exact hn.2.1, ?_⟩
  unfold MT
  rw [e30, hf 20 (by omega) (by omega) (by omega) (by omega) (by omega) (by omega), hf 29 (by omega) (by omega) (by omega) (by omega) (by omega) (by omega)]
  exact hT
theorem cl_after {u v b : xS} (h : RDC u b) (hf : FMd u v) : PCl v := h.cl.congr (fun r h1 h2 => hf.1 r (by omega) (by omega) (by omega) (by omega) (by omega) (by omega))
section
variable {T : Int} {P : Bool} {σ b : xS} {d : Nat} {H : Nat → xS} {K : Bool → xS → Prop} {x y z : Int}
theorem pl_cost {RP : xS → (xS → Prop) → Prop} {Q : Int → Bool → xS → Prop} (h : KB T σ b d H) (hn : NRx σ) (hT : MT σ) (hRP : RPok RP σ b) (hx : rng x) (hin : ¬ (x < 1 ∨ 40 < x)) (k : ∀ (u : xS) (r : Int) , (∀ Q2 : Int → xS → Prop, (∀ v, Fpl σ v → PCl v → MT v → Q2 r v) → vX5_cost x u Q2) → Q r true u) : vX4_cost RP x σ Q := by
  have hw := h.2.2.1
  unfold vX4_cost vX4_isSpan
  refine ⟨hx, fun q => absurd (Or.inl q) hin, fun _ => ⟨fun q => absurd (Or.inr q) hin, fun _ => ⟨⟨by omega, by omega⟩, fun _ => hRP _ (fun σ' hf hr => ?_), fun w => absurd w (by omega)⟩⟩⟩
  obtain ⟨s, rfl⟩ : ∃ s : Nat, x = (s : Int) := ⟨x.toNat, by omega⟩
  refine rdc_least hw hr ⟨by omega, by omega⟩ (fun u K' i' v hf2 hr2 _ hm _ => k u v (fun Q2 k2 => ?_))
  have hfu := hf.trans hf2
  unfold vX5_cost
  refine mkIn hx ⟨by omega, by omega⟩ ⟨by omega, by omega⟩ (fun _ _ => ⟨⟨by omega, by omega⟩, fun w => absurd w (by omega), fun _ => ?_⟩) (fun q => by omega)
  refine mk_costOf (pre_of h hn hT hfu) ⟨by omega, by omega⟩ (fun τ v2 hfm hrd hm2 => ?_)
  rw [hm2.uniq hm]
  exact k2 τ (fpl_of hfu hfm) (cl_after hr2 hfm) hrd.MT
theorem pl_costBad {RP : xS → (xS → Prop) → Prop} {Q : Int → Bool → xS → Prop} (hx : rng x) (hin : x < 1 ∨ 40 < x) (k : Q (-2) false σ) : vX4_cost RP x σ Q := by
  unfold vX4_cost vX4_isSpan
  exact ⟨hx, fun q => ⟨rng0, fun w => absurd rfl w, fun _ => k⟩, fun q => ⟨fun q2 => ⟨rng0, fun w => absurd rfl w, fun _ => k⟩, fun q2 => by omega⟩⟩
theorem pl_costBadM {Q : Int → xS → Prop} (hx : rng x) (hin : x < 1 ∨ 40 < x) (k : Q (-2) σ) : vX5_cost x σ Q := by
  unfold vX5_cost
  exact mkIn hx ⟨by omega, by omega⟩ ⟨by omega, by omega⟩ (fun _ _ => by omega) (fun _ => ⟨rng0, fun _ => k, fun w => absurd rfl w⟩)
theorem hs17 (h : KB T σ b d H) (hn : NRx σ) (hT : MT σ) (hP : P = true → PCl σ) (hx : rng x) (k0 : K P σ) (k : ∀ v, Fpl σ v → PCl v → MT v → K true v) : lawS17 P x y z σ K := by
  have hw := h.2.2.1
  unfold lawS17
  cases P with
  | true =>
    by_cases hin : x < 1 ∨ 40 < x
    · exact pl_costBad hx hin (pl_costBadM hx hin ⟨rfl, k0⟩)
    · exact pl_cost h hn hT (rpp_ok hw h.1 (hP rfl)) hx hin (fun u r hm => hm _ (fun v a b c => ⟨rfl, k v a b c⟩))
  | false =>
    refine ⟨fun hin => pl_costBad hx hin ⟨rfl, pl_costBadM hx hin ⟨rfl, k0⟩⟩, fun hin => ?_⟩
    exact pl_cost h hn hT (rpn_ok hw h.1) hx hin (fun u r hm => ⟨rfl, hm _ (fun v a b c => ⟨rfl, k v a b c⟩)⟩)
theorem pl_plan {RP : xS → (xS → Prop) → Prop} {Q : Int → Bool → xS → Prop} (h : KB T σ b d H) (hn : NRx σ) (hT : MT σ) (hRP : RPok RP σ b) (hx : rng x) (hy : rng y) (hz : rng z) (hin : ¬ ((x < 1 ∨ 40 < x) ∨ y < 0)) (k : ∀ (u : xS) (r : Int) , (∀ Q2 : Int → xS → Prop, (∀ v, Fpl σ v → PCl v → MT v → Q2 r v) → vX5_planned x y z u Q2) → Q r true u) : vX4_planned RP x y z σ Q := by
  have hw := h.2.2.1
  have hv := pv_le hw
  unfold vX4_planned vX4_isSpan
  refine ⟨hx, fun q => absurd (Or.inl (Or.inl q)) hin, fun _ => ⟨fun q => absurd (Or.inl (Or.inr q)) hin, fun _ => ⟨⟨by omega, by omega⟩, fun w => absurd w (by omega), fun _ => ⟨hy, fun _ => hRP _ (fun σ' hf hr => ?_), fun w => by omega⟩⟩⟩⟩
  obtain ⟨s, rfl⟩ : ∃ s : Nat, x = (s : Int) := ⟨x.toNat, by omega⟩
  obtain ⟨i, rfl⟩ : ∃ i : Nat, y = (i : Int) := ⟨y.toNat, by omega⟩
  unfold vX2_stepOf
  refine rdc_least hw hr ⟨by omega, by omega⟩ (fun u K' i' c hf2 hr2 h4 hm hlt => ?_)
  have hfu := hf.trans hf2
  have hcr : -1 ≤ c := by
    rcases hm with ⟨e1, _⟩ | ⟨c2, e1, _⟩ <;> omega
  refine ok_steps hr2.1 h4 hr2.2.2.1 hv.1 hv.2.1 hv.2.2 (by omega) hz hy hlt hcr (fun ans hans => k u ans (fun Q2 k2 => ?_))
  unfold vX5_planned
  refine mkIn hx ⟨by omega, by omega⟩ ⟨by omega, by omega⟩ (fun _ _ => ⟨⟨by omega, by omega⟩, fun w => absurd w (by omega), fun _ => ⟨hy, fun _ => ?_, fun w => by omega⟩⟩) (fun q => by omega)
  refine mk_costOf (pre_of h hn hT hfu) ⟨by omega, by omega⟩ (fun τ v2 hfm hrd hm2 => ?_)
  have e := hm2.uniq hm
  subst e
  rcases hm2 with ⟨e1, hno⟩ | ⟨c0, e1, c120, hcan, hmin⟩
  · refine ⟨⟨by omega, by omega⟩, fun w => absurd e1 w, fun _ => ?_⟩
    have : ans = -1 := by
      rcases hans with ⟨e2, _⟩ | ⟨c3, _⟩
      · exact e2
      · omega
    rw [← this]
    exact k2 τ (fpl_of hfu hfm) (cl_after hr2 hfm) hrd.MT
  · subst e1
    refine ⟨⟨by omega, by omega⟩, fun _ => mk_planned hrd ⟨by omega, by omega⟩ hy hz c120 hcan hmin (fun ρ v3 hfx hpl => ?_), fun w => by omega⟩
    rw [hpl.uniq hans]
    exact k2 ρ (fpl_of hfu (hfm.fx hfx)) (cl_after hr2 (hfm.fx hfx)) (hrd.fx hfx).MT
theorem pl_planBad {RP : xS → (xS → Prop) → Prop} {Q : Int → Bool → xS → Prop} (hx : rng x) (hy : rng y) (hin : (x < 1 ∨ 40 < x) ∨ y < 0) (k : Q (-2) false σ) : vX4_planned RP x y z σ Q := by
  unfold vX4_planned vX4_isSpan
  exact ⟨hx, fun q => ⟨rng0, fun _ => k, fun w => absurd rfl w⟩, fun q => ⟨fun q2 => ⟨rng0, fun _ => k, fun w => absurd rfl w⟩, fun q2 => ⟨⟨by omega, by omega⟩, fun w => absurd w (by omega), fun _ => ⟨hy, fun w => by omega, fun _ => k⟩⟩⟩⟩
theorem pl_planBadM {Q : Int → xS → Prop} (hx : rng x) (hy : rng y) (hin : (x < 1 ∨ 40 < x) ∨ y < 0) (k : Q (-2) σ) : vX5_planned x y z σ Q := by
  unfold vX5_planned
  exact mkIn hx ⟨by omega, by omega⟩ ⟨by omega, by omega⟩ (fun _ _ => ⟨⟨by omega, by omega⟩, fun w => absurd w (by omega), fun _ => ⟨hy, fun w => by omega, fun _ => k⟩⟩) (fun _ => ⟨rng0, fun _ => k, fun w => absurd rfl w⟩)
theorem hs18 (h : KB T σ b d H) (hn : NRx σ) (hT : MT σ) (hP : P = true → PCl σ) (hx : rng x) (hy : rng y) (k0 : K P σ) (k : ∀ v, Fpl σ v → PCl v → MT v → K true v) : lawS18 P x y z σ K := by
  have hw := h.2.2.1
  have hz : rng (if z = 0 then 0 else 1) := by split <;> constructor <;> decide
  unfold lawS18
  cases P with
  | true =>
    by_cases hin : (x < 1 ∨ 40 < x) ∨ y < 0
    · exact pl_planBad hx hy hin (pl_planBadM hx hy hin ⟨rfl, k0⟩)
    · exact pl_plan h hn hT (rpp_ok hw h.1 (hP rfl)) hx hy hz hin (fun u r hm => hm _ (fun v a b c => ⟨rfl, k v a b c⟩))
  | false =>
    refine ⟨fun hin => pl_planBad hx hy hin ⟨rfl, pl_planBadM hx hy hin ⟨rfl, k0⟩⟩, fun hin => ?_⟩
    exact pl_plan h hn hT (rpn_ok hw h.1) hx hy hz hin (fun u r hm => ⟨rfl, hm _ (fun v a b c => ⟨rfl, k v a b c⟩)⟩)
theorem MSR.uniq {n : Nat} {i v w : Int} (h1 : MSR n i v) (h2 : MSR n i w) : v = w := by
  rcases h1 with ⟨e1, h1⟩ | ⟨e1, h1⟩
  · rcases h2 with ⟨_, h2⟩ | ⟨e2, _⟩
    · omega
    · exact absurd e1 e2
  · rcases h2 with ⟨e2, _⟩ | ⟨_, h2⟩
    · exact absurd e2 e1
    · exact h1.uniq h2
theorem pl_meas {RP : xS → (xS → Prop) → Prop} {Q : Int → Bool → xS → Prop} (h : KB T σ b d H) (hn : NRx σ) (hT : MT σ) (hRP : RPok RP σ b) (hx : rng x) (hy : rng y) (hin : ¬ (x < -1 ∨ (y < 0 ∨ 9 < y))) (k : ∀ (u : xS) (r : Int) , (∀ Q2 : Int → xS → Prop, (∀ v, Fpl σ v → PCl v → MT v → Q2 r v) → vX5_measurable x y u Q2) → Q r true u) : vX4_measurable RP x y σ Q := by
  have hw := h.2.2.1
  unfold vX4_measurable
  refine ⟨hx, fun q => absurd (Or.inl q) hin, fun _ => ⟨hy, fun q => absurd (Or.inr (Or.inl q)) hin, fun _ => ⟨fun _ => hRP _ (fun σ' hf hr => ?_), fun w => by omega⟩⟩⟩
  obtain ⟨m, rfl⟩ : ∃ m : Nat, y = (m : Int) := ⟨y.toNat, by omega⟩
  refine rdc_within hw hr (by omega) (fun u w hf2 hr2 hs => ?_)
  have hfu := hf.trans hf2
  obtain ⟨n, rfl, hn41, hb⟩ := hs
  have fin : ∀ r, MSR n x r → ∀ Q2 : Int → xS → Prop, (∀ v, Fpl σ v → PCl v → MT v → Q2 r v) → vX5_measurable x (m : Int) u Q2 := fun r hr0 Q2 k2 => by
    unfold vX5_measurable
    refine ⟨hx, fun q => by omega, fun _ => mkIn hy rng0 ⟨by omega, by omega⟩ (fun _ _ => ⟨⟨by omega, by omega⟩, fun _ => ?_, fun w => absurd w (by omega)⟩) (fun q => by omega)⟩
    refine mk_measOf (pre_of h hn hT hfu) ⟨hx, by omega⟩ (by omega) hn41 hb (fun τ v hfm hrd hms => ?_)
    rw [hms.uniq hr0]
    exact k2 τ (fpl_of hfu hfm) (cl_after hr2 hfm) hrd.MT
  refine ⟨fun z => ok_bitOf hn41 hx (fun v hv => k u v (fin v (Or.inr ⟨z, hv⟩))), fun z => ok_bits hn41 (k u _ (fin _ (Or.inl ⟨z, rfl⟩)))⟩
theorem pl_measBad {RP : xS → (xS → Prop) → Prop} {Q : Int → Bool → xS → Prop} (hx : rng x) (hy : rng y) (hin : x < -1 ∨ (y < 0 ∨ 9 < y)) (k : Q (-2) false σ) : vX4_measurable RP x y σ Q := by
  unfold vX4_measurable
  exact ⟨hx, fun _ => k, fun q => ⟨hy, fun _ => k, fun q2 => ⟨fun q3 => by omega, fun _ => k⟩⟩⟩
theorem pl_measBadM {Q : Int → xS → Prop} (hx : rng x) (hy : rng y) (hin : x < -1 ∨ (y < 0 ∨ 9 < y)) (k : Q (-2) σ) : vX5_measurable x y σ Q := by
  unfold vX5_measurable
  exact ⟨hx, fun _ => k, fun q => mkIn hy rng0 ⟨by omega, by omega⟩ (fun _ _ => by omega) (fun _ => ⟨rng0, fun w => absurd rfl w, fun _ => k⟩)⟩
theorem hs19 (h : KB T σ b d H) (hn : NRx σ) (hT : MT σ) (hP : P = true → PCl σ) (hx : rng x) (hy : rng y) (k0 : K P σ) (k : ∀ v, Fpl σ v → PCl v → MT v → K true v) : lawS19 P x y z σ K := by
  have hw := h.2.2.1
  unfold lawS19
  cases P with
  | true =>
    by_cases hin : x < -1 ∨ (y < 0 ∨ 9 < y)
    · exact pl_measBad hx hy hin (pl_measBadM hx hy hin ⟨rfl, k0⟩)
    · exact pl_meas h hn hT (rpp_ok hw h.1 (hP rfl)) hx hy hin (fun u r hm => hm _ (fun v a b c => ⟨rfl, k v a b c⟩))
  | false =>
    refine ⟨fun hin => pl_measBad hx hy hin ⟨rfl, pl_measBadM hx hy hin ⟨rfl, k0⟩⟩, fun hin => ?_⟩
    exact pl_meas h hn hT (rpn_ok hw h.1) hx hy hin (fun u r hm => ⟨rfl, hm _ (fun v a b c => ⟨rfl, k v a b c⟩)⟩)
end
