/-! the reference runs a stretch -/
def MRI (s0 : xS) (T G : Int) (s : xS) (k : Nat) (b : xS) : Prop := MB (s 21) b ∧ pin T G k b ∧ k ≤ 100 ∧ ∀ r, r ≠ 21 → r ≠ 23 → r ≠ 27 → r ≠ 28 → s r = s0 r
section
variable {s0 : xS} {T G : Int} {n J : Nat} {t : Nat → Int} {Q : Int → xS → Prop}
theorem MRI.up {s s' : xS} {k : Nat} {b : xS} (h : MRI s0 T G s k b) (hr : ∀ r, r ≠ 27 → r ≠ 28 → s' r = s r) : MRI s0 T G s' k b :=
  ⟨by rw [hr 21 (by omega) (by omega)]; exact h.1, h.2.1, h.2.2.1, fun r a1 a2 a3 a4 => (hr r a3 a4).trans (h.2.2.2 r a1 a2 a3 a4)⟩
/-- done with a stretch: on behind it, or at an end -/
def SGd (s0 : xS) (T G : Int) (Q : Int → xS → Prop) (d j e : Nat) (X : ST) (w : Nat) : Prop := ∀ (N : Nat) (s : xS) (k : Nat) (b : xS), MRI s0 T G s k b →
  (∀ s' k' b', ev X k b = (true, k', b') → MRI s0 T G s' k' b' → (∀ i, i < d → s' 27 i = s 27 i ∧ s' 28 i = s 28 i) → itr (vX5_runsScript_6 Q) N ((k' : Int), (d : Int), (e : Int), s')) →
  (∀ s' k' b', ev X k b = (false, k', b') → MRI s0 T G s' k' b' → Q (k' : Int) s') → itr (vX5_runsScript_6 Q) (N + w) ((k : Int), (d : Int), (j : Int), s)
theorem SGd.nil {d j : Nat} : SGd s0 T G Q d j j [] 0 := fun N s k b h h1 _ => h1 s k b rfl h (fun _ _ => ⟨rfl, rfl⟩)
theorem SGd.app {d j m e : Nat} {X Y : ST} {w v : Nat} (h1 : SGd s0 T G Q d j m X w) (h2 : SGd s0 T G Q d m e Y v) : SGd s0 T G Q d j e (X ++ Y) (v + w) := fun N s k b h kt kf => by
  rw [← Nat.add_assoc]
  refine h1 (N + v) s k b h (fun s1 k1 b1 e1 h3 f1 => h2 N s1 k1 b1 h3 (fun s2 k2 b2 e2 h4 f2 => kt s2 k2 b2 ?_ h4 (fun i hi => ⟨(f2 i hi).1.trans (f1 i hi).1, (f2 i hi).2.trans (f1 i hi).2⟩)) (fun s2 k2 b2 e2 h4 => kf s2 k2 b2 ?_ h4)) (fun s1 k1 b1 e1 h3 => kf s1 k1 b1 (ev_app_f _ _ _ _ _ _ e1) h3)
  · rw [ev_app_t _ _ _ _ _ _ e1]; exact e2
  · rw [ev_app_t _ _ _ _ _ _ e1]; exact e2
theorem SGd.one {d j : Nat} (h8 : s0 20 8 = (J : Int)) (hJ : J ≤ 50) (htok : ∀ i, i < J → s0 25 i = kks n t i ∧ s0 26 i = vvs n t i) (hj : j < J) (hb : bas G (kks n t j) (vvs n t j)) : SGd s0 T G Q d j (j + 1) [(lts (kks n t j), vvs n t j)] 1 := fun N s k b h kt kf => by
  obtain ⟨hm, hp, hk, hf⟩ := h
  show vX5_runsScript_6 Q (itr (vX5_runsScript_6 Q) N) _
  unfold vX5_runsScript_6
  dsimp only
  have hev : ev [(lts (kks n t j), vvs n t j)] k b = if k = 100 then (false, k, b) else (pf (lts (kks n t j), vvs n t j) b).elim (false, k, b) (fun b' => (true, k + 1, b')) := rfl
  have h20 : s 20 8 = (J : Int) := by rw [hf 20 (by omega) (by omega) (by omega) (by omega)]; exact h8
  have h25 : s 25 j = kks n t j := by rw [hf 25 (by omega) (by omega) (by omega) (by omega)]; exact (htok j hj).1
  have h26 : s 26 j = vvs n t j := by rw [hf 26 (by omega) (by omega) (by omega) (by omega)]; exact (htok j hj).2
  have hkr : 0 ≤ kks n t j ∧ kks n t j ≤ 3 := by unfold bas at hb; omega
  rw [h20, Int.toNat_natCast, h25]
  refine ⟨⟨by omega, by omega⟩, ⟨by omega, by omega⟩, fun w => absurd w (by omega), fun _ => ⟨⟨by omega, by omega⟩, ⟨by omega, by omega⟩, fun _ => ⟨fun _ => ⟨⟨by omega, by omega⟩, fun w => kf s k b ?_ ⟨hm, hp, hk, hf⟩, fun w => ?_⟩, fun w => absurd w (by omega)⟩, fun w => absurd w (by omega)⟩⟩
  · rw [hev, if_pos (by omega)]
  · rw [if_neg (by omega)] at hev
    refine mkDoes hp hb hm h25 h26 (by omega) (fun s' b' e1 hm' hf' => ⟨⟨by decide, by decide⟩, fun _ => ?_, fun w => absurd w (by decide)⟩) (fun s' e1 hm' hf' => ⟨rng0, fun w => absurd rfl w, fun _ => kf s' k b (by rw [hev, e1]; rfl) ⟨hm', hp, hk, fun r a1 a2 a3 a4 => (hf' r a1 a2).trans (hf r a1 a2 a3 a4)⟩⟩)
    have := kt s' (k + 1) b' (by rw [hev, e1]; rfl) ⟨hm', hp.s ⟨_, _, rfl, hb⟩ e1, by omega, fun r a1 a2 a3 a4 => (hf' r a1 a2).trans (hf r a1 a2 a3 a4)⟩ (fun i _ => by rw [hf' 27 (by omega) (by omega), hf' 28 (by omega) (by omega)]; exact ⟨rfl, rfl⟩)
    rw [Int.natCast_succ, Int.natCast_succ] at this
    exact this
theorem SGd.close {d j m c N k : Nat} {s b : xS} (h8 : s0 20 8 = (J : Int)) (hJ : J ≤ 50) (htok : ∀ i, i < J → s0 25 i = kks n t i ∧ s0 26 i = vvs n t i) (hm : m < J) (hd : d < 2) (hk5 : kks n t m = 5) (hc : c ≤ 100) (h : MRI s0 T G s k b) (h27 : s 27 d = (j : Int)) (h28 : s 28 d = ((c + 1 : Nat) : Int)) (k0 : c = 0 → itr (vX5_runsScript_6 Q) N ((k : Int), (d : Int), ((m + 1 : Nat) : Int), xup s 28 d (c : Int))) (k1 : c ≠ 0 → itr (vX5_runsScript_6 Q) N ((k : Int), ((d + 1 : Nat) : Int), ((j + 1 : Nat) : Int), xup s 28 d (c : Int))) : itr (vX5_runsScript_6 Q) (N + 1) ((k : Int), ((d + 1 : Nat) : Int), (m : Int), s) := by
  obtain ⟨_, hp, hk, hf⟩ := h
  show vX5_runsScript_6 Q (itr (vX5_runsScript_6 Q) N) _
  unfold vX5_runsScript_6 vX5_runsScript_94
  dsimp only
  have h20 : s 20 8 = (J : Int) := by rw [hf 20 (by omega) (by omega) (by omega) (by omega)]; exact h8
  have h25 : s 25 m = kks n t m := by rw [hf 25 (by omega) (by omega) (by omega) (by omega)]; exact (htok m hm).1
  have ed : ((d + 1 : Nat) : Int) - 1 = (d : Int) := by omega
  rw [h20, Int.toNat_natCast, h25, hk5, ed, Int.toNat_natCast, Int.sub_zero]
  refine ⟨⟨by omega, by omega⟩, ⟨by omega, by omega⟩, fun w => absurd w (by omega), fun _ => ⟨⟨by omega, by omega⟩, ⟨by decide, by decide⟩, fun _ => ⟨fun w => absurd rfl w, fun _ => ⟨⟨by omega, by omega⟩, fun t18 e18 s20 e20 => ?_⟩⟩, fun w => absurd w (by decide)⟩⟩
  have et : t18 = (c : Int) := by rw [e18, h28]; omega
  rw [et] at e20
  subst e20
  have e28 : xup s 28 d (c : Int) 28 d = (c : Int) := by rw [xup_app, if_pos ⟨rfl, rfl⟩]
  have e27 : xup s 28 d (c : Int) 27 d = (j : Int) := by rw [xup_ne (by omega)]; exact h27
  rw [e28, e27]
  rw [Int.natCast_succ] at k0
  rw [Int.natCast_succ j] at k1
  exact ⟨⟨by omega, by omega⟩, fun w => ⟨⟨by omega, by omega⟩, ⟨by omega, by omega⟩, fun _ => k0 (by omega), fun w2 => absurd w w2⟩, fun w => ⟨⟨by omega, by omega⟩, ⟨by omega, by omega⟩, fun w2 => absurd w2 w, fun _ => k1 (by omega)⟩⟩
/-- the copies of a body, with c of them left behind this one -/
theorem SGd.loop {d j m w : Nat} {Y : ST} (h8 : s0 20 8 = (J : Int)) (hJ : J ≤ 50) (htok : ∀ i, i < J → s0 25 i = kks n t i ∧ s0 26 i = vvs n t i) (hm : m < J) (hjm : j ≤ m) (hd : d < 2) (hk5 : kks n t m = 5) (hY : SGd s0 T G Q (d + 1) (j + 1) m Y w) : ∀ (c : Nat) (N : Nat) (s : xS) (k : Nat) (b : xS), c ≤ 100 → MRI s0 T G s k b → s 27 d = (j : Int) → s 28 d = ((c + 1 : Nat) : Int) →
    (∀ s' k' b', ev (rept (c + 1) Y) k b = (true, k', b') → MRI s0 T G s' k' b' → (∀ i, i < d → s' 27 i = s 27 i ∧ s' 28 i = s 28 i) → itr (vX5_runsScript_6 Q) N ((k' : Int), (d : Int), ((m + 1 : Nat) : Int), s')) →
    (∀ s' k' b', ev (rept (c + 1) Y) k b = (false, k', b') → MRI s0 T G s' k' b' → Q (k' : Int) s') → itr (vX5_runsScript_6 Q) (N + (c + 1) * (w + 1)) ((k : Int), ((d + 1 : Nat) : Int), ((j + 1 : Nat) : Int), s) := fun c => by
  induction c with
  | zero =>
    intro N s k b hc h h27 h28 kt kf
    rw [show N + (0 + 1) * (w + 1) = (N + 1) + w by rw [Nat.zero_add, Nat.one_mul]; omega]
    have er : rept (0 + 1) Y = Y ++ [] := rfl
    rw [er, List.append_nil] at kt kf
    refine hY (N + 1) s k b h (fun s1 k1 b1 e1 h1 f1 => ?_) kf
    have fd := f1 d (by omega)
    refine SGd.close h8 hJ htok hm hd hk5 hc h1 (fd.1.trans h27) (fd.2.trans h28) (fun _ => kt _ k1 b1 e1 (h1.up (fun r _ a => xup_ne a)) (fun i hi => ?_)) (fun w => absurd rfl w)
    rw [xup_ne (by omega), xup_app, if_neg (by omega)]
    exact f1 i (by omega)
  | succ c ih =>
    intro N s k b hc h h27 h28 kt kf
    rw [show N + (c + 1 + 1) * (w + 1) = (N + (c + 1) * (w + 1) + 1) + w by rw [Nat.succ_mul (c + 1)]; omega]
    refine hY (N + (c + 1) * (w + 1) + 1) s k b h (fun s1 k1 b1 e1 h1 f1 => ?_) (fun s1 k1 b1 e1 h1 => kf s1 k1 b1 (ev_app_f _ _ _ _ _ _ e1) h1)
    have fd := f1 d (by omega)
    refine SGd.close h8 hJ htok hm hd hk5 hc h1 (fd.1.trans h27) (fd.2.trans h28) (fun w => absurd w (by omega)) (fun _ => ih N _ k1 b1 (by omega) (h1.up (fun r _ a => xup_ne a)) ?_ ?_ (fun s2 k2 b2 e2 h2 f2 => kt s2 k2 b2 ?_ h2 (fun i hi => ?_)) (fun s2 k2 b2 e2 h2 => kf s2 k2 b2 ?_ h2))
    · rw [xup_ne (by omega)]
      exact fd.1.trans h27
    · rw [xup_app, if_pos ⟨rfl, rfl⟩]
    · show ev (Y ++ rept (c + 1) Y) k b = _
      rw [ev_app_t _ _ _ _ _ _ e1]
      exact e2
    · have g := f2 i hi
      rw [xup_ne (by omega), xup_app, if_neg (by omega)] at g
      exact ⟨g.1.trans (f1 i (by omega)).1, g.2.trans (f1 i (by omega)).2⟩
    · show ev (Y ++ rept (c + 1) Y) k b = _
      rw [ev_app_t _ _ _ _ _ _ e1]
      exact e2
theorem SGd.rep {d j m w v : Nat} {Y : ST} (h8 : s0 20 8 = (J : Int)) (hJ : J ≤ 50) (htok : ∀ i, i < J → s0 25 i = kks n t i ∧ s0 26 i = vvs n t i) (hm : m < J) (hjm : j < m) (hd : d < 2) (hk4 : kks n t j = 4) (hv : vvs n t j = (v : Int)) (hv1 : 1 ≤ v) (hv2 : v ≤ 20) (hk5 : kks n t m = 5) (hY : SGd s0 T G Q (d + 1) (j + 1) m Y w) : SGd s0 T G Q d j (m + 1) (rept v Y) (v * (w + 1) + 1) := fun N s k b h kt kf => by
  obtain ⟨c, rfl⟩ : ∃ c, v = c + 1 := ⟨v - 1, by omega⟩
  have hh := h
  obtain ⟨_, hp, hk, hf⟩ := h
  show vX5_runsScript_6 Q (itr (vX5_runsScript_6 Q) (N + (c + 1) * (w + 1))) _
  unfold vX5_runsScript_6
  dsimp only
  have h20 : s 20 8 = (J : Int) := by rw [hf 20 (by omega) (by omega) (by omega) (by omega)]; exact h8
  have h25 : s 25 j = kks n t j := by rw [hf 25 (by omega) (by omega) (by omega) (by omega)]; exact (htok j (by omega)).1
  have h26 : s 26 j = vvs n t j := by rw [hf 26 (by omega) (by omega) (by omega) (by omega)]; exact (htok j (by omega)).2
  rw [h20, Int.toNat_natCast, h25, hk4, Int.toNat_natCast]
  refine ⟨⟨by omega, by omega⟩, ⟨by omega, by omega⟩, fun w => absurd w (by omega), fun _ => ⟨⟨by omega, by omega⟩, ⟨by decide, by decide⟩, fun w => absurd rfl w, fun _ => ⟨⟨by omega, by omega⟩, fun s1 e1 s2 e2 => ?_⟩⟩⟩
  have e3 : s1 26 j = ((c + 1 : Nat) : Int) := by rw [e1, xup_ne (by omega), h26, hv]
  rw [e3] at e2
  have f2 : ∀ r, r ≠ 27 → r ≠ 28 → s2 r = s r := fun r a1 a2 => by rw [e2, xup_ne a2, e1, xup_ne a1]
  have := SGd.loop h8 hJ htok hm (by omega) hd hk5 hY c N s2 k b (by omega) (hh.up f2) (by rw [e2, xup_ne (by omega), e1, xup_app, if_pos ⟨rfl, rfl⟩]) (by rw [e2, xup_app, if_pos ⟨rfl, rfl⟩]) (fun s3 k3 b3 e3 h3 g3 => kt s3 k3 b3 e3 h3 (fun i hi => ?_)) kf
  · rw [Int.natCast_succ d, Int.natCast_succ j] at this
    exact this
  · have g := g3 i hi
    rw [e2, xup_ne (by omega), xup_app (s1) 28, if_neg (by omega), e1, xup_app, if_neg (by omega), xup_ne (by omega)] at g
    exact g
theorem SEG.run (h8 : s0 20 8 = (J : Int)) (hJ : J ≤ 50) (htok : ∀ i, i < J → s0 25 i = kks n t i ∧ s0 26 i = vvs n t i) : ∀ (f d j e : Nat) (X : ST), SEG n t G f d j e X → d ≤ 2 → e ≤ J → ∃ w, SGd s0 T G Q d j e X w
  | 0, d, j, e, X, h, _, _ => by
    obtain ⟨rfl, rfl⟩ := h
    exact ⟨0, SGd.nil⟩
  | f + 1, d, j, e, X, h, hd, he => by
    rcases h with ⟨rfl, rfl⟩ | ⟨hb, X', h, rfl⟩ | ⟨hk4, hd2, m, v, Y, X', hv, hv1, hv2, h1, hk5, h2, rfl⟩
    · exact ⟨0, SGd.nil⟩
    · obtain ⟨w, hw⟩ := SEG.run h8 hJ htok f d (j + 1) e X' h hd he
      have := SEG.le _ _ _ _ _ h
      exact ⟨w + 1, SGd.app (SGd.one h8 hJ htok (by omega) hb) hw⟩
    · have l1 := SEG.le _ _ _ _ _ h1
      have l2 := SEG.le _ _ _ _ _ h2
      obtain ⟨w, hw⟩ := SEG.run h8 hJ htok f (d + 1) (j + 1) m Y h1 (by omega) (by omega)
      obtain ⟨u, hu⟩ := SEG.run h8 hJ htok f d (m + 1) e X' h2 hd he
      exact ⟨_, SGd.app (SGd.rep h8 hJ htok (by omega) (by omega) hd2 hk4 hv hv1 hv2 hk5 hw) hu⟩
/-- the reference runs its script -/
theorem mkRun {b : xS} {X : ST} (h8 : s0 20 8 = (J : Int)) (hJ : J ≤ 50) (htok : ∀ i, i < J → s0 25 i = kks n t i ∧ s0 26 i = vvs n t i) (hs : SG n t G 0 0 J X) (hm : MB (s0 21) b) (hp : pin T G 0 b) (k : ∀ s', MB (s' 21) (ev X 0 b).2.2 → pin T G (ev X 0 b).2.1 (ev X 0 b).2.2 → (∀ r, r ≠ 21 → r ≠ 23 → r ≠ 27 → r ≠ 28 → s' r = s0 r) → Q ((ev X 0 b).2.1 : Int) s') : vX5_runsScript s0 Q := by
  obtain ⟨f, hf⟩ := hs
  obtain ⟨w, hw⟩ := SEG.run (T := T) (Q := Q) h8 hJ htok f 0 0 J X hf (by omega) (Nat.le_refl _)
  refine ⟨1 + w, hw 1 s0 0 b ⟨hm, hp, by omega, fun _ _ _ _ _ => rfl⟩ (fun s' k' b' e1 h1 _ => ?_) (fun s' k' b' e1 h1 => ?_)⟩
  · obtain ⟨g1, g2, g3, g4⟩ := h1
    rw [e1] at k
    show vX5_runsScript_6 Q (itr (vX5_runsScript_6 Q) 0) _
    unfold vX5_runsScript_6
    dsimp only
    rw [g4 20 (by omega) (by omega) (by omega) (by omega), h8]
    exact ⟨⟨by omega, by omega⟩, ⟨by omega, by omega⟩, fun _ => k s' g1 g2 g4, fun w => absurd (by omega) w⟩
  · rw [e1] at k
    exact k s' h1.1 h1.2.1 h1.2.2.2
end
