abbrev FL : List Nat := [0, 1, 2, 3, 4, 5, 6, 7, 8, 40]
def vL_law_578 (K122 : Int × Int × xS → Prop) (Q : Int → xS → Prop) (x3 x4 y0 y1 : Int) (σ0 : xS) : Prop := rng y0 ∧ (rng y1 ∧ ((y0 = y1 → K122 (x3, (x4 + 1), σ0)) ∧ (¬ y0 = y1 → Q 0 σ0)))
def vL_law_545 (K122 : Int × Int × xS → Prop) (Q : Int → xS → Prop) (x3 x4 x7 : Int) (σ0 : xS) : Prop := rng x7 ∧ ((x7 = 0 → Q 0 σ0) ∧ (¬ x7 = 0 → vL_isTold σ0 (fun r6 σ7 => rng r6 ∧ ((r6 = 0 → Q 0 σ7) ∧ (¬ r6 = 0 → vX4_count 3 σ7 (fun r10 σ11 => rng x3 ∧ ((¬ x3 = (-1) → vL_law_578 K122 Q x3 x4 r10 ((σ11 40 22) - x3) σ11) ∧ (x3 = (-1) → vL_law_578 K122 Q x3 x4 r10 (-1) σ11))))))))
def vL_law_543 (K122 : Int × Int × xS → Prop) (Q : Int → xS → Prop) (x3 x4 y0 : Int) (σ0 : xS) : Prop := vL_law_545 K122 Q x3 x4 y0 σ0
def vL_law_479 (K122 : Int × Int × xS → Prop) (Q : Int → xS → Prop) (x3 x4 y0 y1 y2 : Int) (σ0 : xS) : Prop := vL_low y1 y2 σ0 (fun r14 σ15 => vL_passes (y0 + r14) σ15 (fun r16 σ17 => vX4_pass (y0 + r14) σ17 (fun r18 σ19 => rng r18 ∧ (rng r16 ∧ ((¬ r18 = r16 → vL_law_545 K122 Q x3 x4 0 σ19) ∧ (r18 = r16 → vL_law_545 K122 Q x3 x4 1 σ19))))))
def vL_law_455 (K122 : Int × Int × xS → Prop) (Q : Int → xS → Prop) (x3 x4 x5 : Int) (σ0 : xS) : Prop := vL_low (jshr x5 12) 4 σ0 (fun r23 σ24 => rng r23 ∧ ((¬ r23 = 0 → vL_law_479 K122 Q x3 x4 1 (jshr x5 7) 4 σ24) ∧ (r23 = 0 → vL_law_479 K122 Q x3 x4 1 (jshr x5 7) 15 σ24)))
def vL_law_404 (K122 : Int × Int × xS → Prop) (Q : Int → xS → Prop) (x3 x4 : Int) (σ0 : xS) : Prop := vL_runsAny σ0 (fun r27 σ28 => rng r27 ∧ ((r27 = 0 → vX4_await σ28 (fun r31 σ32 => rng r31 ∧ ((¬ r31 = (-3) → vL_law_545 K122 Q x3 x4 0 σ32) ∧ (r31 = (-3) → vL_law_545 K122 Q x3 x4 1 σ32)))) ∧ (¬ r27 = 0 → vL_awaits σ28 (fun r35 σ36 => vX4_await σ36 (fun r37 σ38 => rng r37 ∧ (rng r35 ∧ ((¬ r37 = r35 → vL_law_545 K122 Q x3 x4 0 σ38) ∧ (r37 = r35 → vL_law_545 K122 Q x3 x4 1 σ38))))))))
def vL_law_394 (K122 : Int × Int × xS → Prop) (Q : Int → xS → Prop) (x4 y0 : Int) (σ0 : xS) : Prop := vL_law_545 K122 Q (σ0 40 22) x4 y0 σ0
def vL_law_122  (Q : Int → xS → Prop) (K122 : Int × Int × xS → Prop) (a : Int × Int × xS) : Prop := match a with
  | (x3, x4, σ0) => rng x4 ∧ ((34 ≤ x4 → vX4_pass 1000 σ0 (fun r44 σ45 => rng r44 ∧ ((¬ r44 = (-2) → Q 0 σ45) ∧ (r44 = (-2) → vX4_count 10 σ45 (fun r48 σ49 => rng r48 ∧ ((¬ r48 = (-2) → Q 0 σ49) ∧ (r48 = (-2) → vX4_loosen 3 σ49 (fun r52 σ53 => rng r52 ∧ ((¬ r52 = (-2) → Q 0 σ53) ∧ (r52 = (-2) → Q 1 σ53)))))))))) ∧ (¬ 34 ≤ x4 → (0 ≤ x4 ∧ x4 < 1000) ∧ (∀ r57 : Int, rng r57 → (vL_low (jshr r57 4) (σ0 40 21) σ0 (fun r59 σ60 => vL_low r57 13 σ60 (fun r61 σ62 => rng r61 ∧ ((r61 < 0 ∨ 9 < r61 → vL_turns r59 σ62 (fun σ66 => vX4_turn r59 σ66 (fun r67 σ68 => (0 ≤ ((7 * r59) + 1) ∧ ((7 * r59) + 1) < 64) ∧ (rng r67 ∧ (rng (σ68 40 (((7 * r59) + 1).toNat)) ∧ ((¬ r67 = (σ68 40 (((7 * r59) + 1).toNat)) → vL_law_543 K122 Q x3 x4 0 σ68) ∧ (r67 = (σ68 40 (((7 * r59) + 1).toNat)) → vL_law_543 K122 Q x3 x4 1 σ68))))))) ∧ (r61 = 0 → vL_low (jshr r57 7) (σ62 40 21) σ62 (fun r74 σ75 => vL_fixes r59 r74 σ75 (fun r76 σ77 => vL_law_545 K122 Q x3 x4 r76 σ77))) ∧ (r61 = 1 → vL_low (jshr r57 7) 2 σ62 (fun r79 σ80 => rng r79 ∧ ((¬ r79 = 0 → vL_low (jshr r57 8) 4 σ80 (fun r83 σ84 => rng r83 ∧ ((0 < r83 → vL_law_545 K122 Q x3 x4 1 σ84) ∧ (¬ 0 < r83 → vL_low (jshr r57 10) 3 σ84 (fun r87 σ88 => vL_setsGlasses (1 + r87) σ88 (fun r89 σ90 => rng r89 ∧ ((r89 = 0 → vL_law_545 K122 Q x3 x4 0 σ90) ∧ (¬ r89 = 0 → vL_law_545 K122 Q x3 x4 1 σ90)))))))) ∧ (r79 = 0 → vL_loosens r59 σ80 (fun r93 σ94 => vL_law_545 K122 Q x3 x4 r93 σ94))))) ∧ (r61 = 2 → vL_low (jshr r57 7) 12 σ62 (fun r96 σ97 => vL_setsAmount r59 (1 + r96) σ97 (fun r98 σ99 => vL_law_545 K122 Q x3 x4 r98 σ99))) ∧ (r61 = 3 → vL_low (jshr r57 7) 3 σ62 (fun r101 σ102 => vL_low (jshr r57 9) 9 σ102 (fun r103 σ104 => vL_setsKind r59 r101 (1 + r103) σ104 (fun r105 σ106 => vL_law_545 K122 Q x3 x4 r105 σ106)))) ∧ (r61 = 4 → vX4_tap r59 σ62 (fun r108 σ109 => vL_taps r59 σ109 (fun r110 σ111 => rng r108 ∧ (rng r110 ∧ ((¬ r108 = r110 → vL_law_545 K122 Q x3 x4 0 σ111) ∧ (r108 = r110 → vL_law_545 K122 Q x3 x4 1 σ111)))))) ∧ (r61 = 5 → vX4_mark σ62 (fun r116 σ117 => rng r116 ∧ (rng x3 ∧ ((¬ r116 = x3 → vL_law_394 K122 Q x4 0 σ117) ∧ (r116 = x3 → vL_law_394 K122 Q x4 1 σ117))))) ∧ (r61 = 6 → vL_law_404 K122 Q x3 x4 σ62) ∧ (r61 = 7 → vL_law_404 K122 Q x3 x4 σ62) ∧ (r61 = 8 → vL_law_455 K122 Q x3 x4 r57 σ62) ∧ (r61 = 9 → vL_law_455 K122 Q x3 x4 r57 σ62))))))))
def vL_law (σ : xS) (Q : Int → xS → Prop) : Prop := vL_begins σ (fun σ126 => vX4_await σ126 (fun r127 σ128 => rng r127 ∧ ((¬ r127 = (-3) → Q 0 σ128) ∧ (r127 = (-3) → vX4_count 3 σ128 (fun r131 σ132 => rng r131 ∧ ((¬ r131 = (-1) → Q 0 σ132) ∧ (r131 = (-1) → vX4_undo σ132 (fun r135 σ136 => rng r135 ∧ ((¬ r135 = (-3) → Q 0 σ136) ∧ (r135 = (-3) → vX4_turn 3 σ136 (fun r139 σ140 => rng r139 ∧ ((¬ r139 = (-2) → Q 0 σ140) ∧ (r139 = (-2) → vX4_tap (-1) σ140 (fun r143 σ144 => rng r143 ∧ ((¬ r143 = (-2) → Q 0 σ144) ∧ (r143 = (-2) → vX4_pass 0 σ144 (fun r147 σ148 => rng r147 ∧ ((¬ r147 = (-2) → Q 0 σ148) ∧ (r147 = (-2) → vX4_fix 0 3 σ148 (fun r151 σ152 => rng r151 ∧ ((¬ r151 = (-2) → Q 0 σ152) ∧ (r151 = (-2) → vX4_event (-1) 0 σ152 (fun r155 σ156 => rng r155 ∧ ((¬ r155 = (-2) → Q 0 σ156) ∧ (r155 = (-2) → vX4_event 0 3 σ156 (fun r159 σ160 => rng r159 ∧ ((¬ r159 = (-2) → Q 0 σ160) ∧ (r159 = (-2) → vL_isTold σ160 (fun r163 σ164 => rng r163 ∧ ((¬ r163 = 0 → mu (vL_law_122 Q) ((-1), 0, σ164)) ∧ (r163 = 0 → Q 0 σ164)))))))))))))))))))))))))))))))
set_option maxHeartbeats 16000000 in
set_option maxRecDepth 200000 in
theorem mL_law {p : Program} {l : Launch} {e : Env} {s : State} {m : MethodId} {below : List Frame} {meth : Method} {c : Code} {D : va_G} {b L : Nat} {xs : Nat → Int32} {cI cJ cZ : ClassId} {ad : Nat → Nat} {σ00 : xS} (hL : L ≤ 260) (C : xC True p s m #[.ref b] meth c cL_law 10 RL wsL_law D vwCl (xtys cI cJ cZ) (fun q : Nat => s.heap.size ≤ q)) (hX : va_X b L xs s s.heap) (hbl : b < s.heap.size) (hr : meth.sig.returnType = ret) {Q : Int → xS → Prop} (hQ : ∀ v σ, Q v σ → v = 1) (σ : xS) (hw : vL_law σ Q) : xX p l e room_1 s m #[.ref b] below meth c D vwCl (fun q : Nat => s.heap.size ≤ q) (wXA .null ad cI cJ cZ) FL σ00 10 907 (lw_Z below #[.ref b] s) 10 σ 13 [(0, .ref b), (1, .ref (ad 0)), (2, .ref (ad 40))] [] := by
  have hbA : ¬ (fun q : Nat => s.heap.size ≤ q) b := Nat.not_le.mpr hbl
  have B578 : ∀ (K122 : Int × Int × xS → Prop) (hK122 : ∀ a, K122 a → xX p l e room_1 s m #[.ref b] below meth c D vwCl (fun q : Nat => s.heap.size ≤ q) (wXA .null ad cI cJ cZ) FL σ00 10 907 (lw_Z below #[.ref b] s) 10 (a.2.2) 122 [(0, .ref b), (1, .ref (ad 0)), (2, .ref (ad 40)), (3, .int (i32 (a.1))), (4, .int (i32 (a.2.1)))] []) (x3 x4 y0 y1 : Int) (σ0 : xS), vL_law_578 K122 Q x3 x4 y0 y1 σ0 → xX p l e room_1 s m #[.ref b] below meth c D vwCl (fun q : Nat => s.heap.size ≤ q) (wXA .null ad cI cJ cZ) FL σ00 10 907 (lw_Z below #[.ref b] s) 10 σ0 578 [(0, .ref b), (1, .ref (ad 0)), (2, .ref (ad 40)), (3, .int (i32 x3)), (4, .int (i32 x4))] [.int (i32 y1), .int (i32 y0)] := by
    intro K122 hK122 x3 x4 y0 y1 σ0 hw
    unfold vL_law_578 at hw
    obtain ⟨g1, hw⟩ := hw
    obtain ⟨g2, hw⟩ := hw
    refine xr_icmp_eq C g1 g2 583 dL_law_578 (by decide) (fun c3 => ?_) (fun c3 => ?_)
    · have hw := hw.1 c3
      refine xr_iinc C 4 [(0, .ref b), (1, .ref (ad 0)), (2, .ref (ad 40)), (3, .int (i32 x3)), (4, .int (i32 (x4 + 1)))] dL_law_583 rfl (by decide) rfl ?_
      refine xr_goto C 122 dL_law_586 (by decide) ?_
      exact hK122 (x3, (x4 + 1), σ0) hw
    · have hw := hw.2 c3
      refine xr_iconst C dL_law_581 ?_
      exact absurd (hQ _ _ hw) (by decide)
  have B545 : ∀ (K122 : Int × Int × xS → Prop) (hK122 : ∀ a, K122 a → xX p l e room_1 s m #[.ref b] below meth c D vwCl (fun q : Nat => s.heap.size ≤ q) (wXA .null ad cI cJ cZ) FL σ00 10 907 (lw_Z below #[.ref b] s) 10 (a.2.2) 122 [(0, .ref b), (1, .ref (ad 0)), (2, .ref (ad 40)), (3, .int (i32 (a.1))), (4, .int (i32 (a.2.1)))] []) (x3 x4 x7 : Int) (σ0 : xS), vL_law_545 K122 Q x3 x4 x7 σ0 → xX p l e room_1 s m #[.ref b] below meth c D vwCl (fun q : Nat => s.heap.size ≤ q) (wXA .null ad cI cJ cZ) FL σ00 10 907 (lw_Z below #[.ref b] s) 10 σ0 545 [(0, .ref b), (1, .ref (ad 0)), (2, .ref (ad 40)), (3, .int (i32 x3)), (4, .int (i32 x4)), (7, .int (i32 x7))] [] := by
    intro K122 hK122 x3 x4 x7 σ0 hw
    unfold vL_law_545 at hw
    refine xr_iload C 5 dL_law_545 rfl ?_
    obtain ⟨g4, hw⟩ := hw
    refine xr_if_eq C g4 581 dL_law_547 (by decide) (fun c5 => ?_) (fun c5 => ?_)
    · have hw := hw.1 c5
      refine xr_iconst C dL_law_581 ?_
      exact absurd (hQ _ _ hw) (by decide)
    · have hw := hw.2 c5
      refine xr_aload_n C 1 dL_law_550 rfl rfl ?_
      refine xr_aload_n C 2 dL_law_551 rfl rfl ?_
      refine xr_callSi C (As := [.ref (ad 0), .ref (ad 40)]) (rest := []) (xSp_rf _ _) (by decide) (fun _ => trivial) (mL_isTold σ0 _ hw) (va_cwS 2 C.2.2.2.2.1 gL_law_L_isTold rfl rfl rfl (by decide +kernel) ⟨(Nat.le_of_ble_eq_true rfl), (Nat.le_of_ble_eq_true rfl)⟩) rfl rfl (Nat.le_of_ble_eq_true rfl) ⟨(Nat.le_of_ble_eq_true rfl), (Nat.le_of_ble_eq_true rfl)⟩ dL_law_552 (fun r6 σ7 hw => ?_)
      obtain ⟨g8, hw⟩ := hw
      refine xr_if_eq C g8 581 dL_law_555 (by decide) (fun c9 => ?_) (fun c9 => ?_)
      · have hw := hw.1 c9
        refine xr_iconst C dL_law_581 ?_
        exact absurd (hQ _ _ hw) (by decide)
      · have hw := hw.2 c9
        refine xr_aload_n C 1 dL_law_558 rfl rfl ?_
        refine xr_iconst C dL_law_559 ?_
        refine xr_callVi C (ci := 3) (q0 := 0) (As := [.int (i32 3)]) (rest := []) (sp_wXA_wX .null ad cI cJ cZ) (by decide) (fun _ => trivial) (mX4_count σ7 3 _ hw) (cwV 1 C.2.2.2.2.1 gL_law_X4_count rfl rfl rfl (by decide +kernel) ⟨(Nat.le_of_ble_eq_true rfl), (Nat.le_of_ble_eq_true rfl)⟩) rfl rfl rfl rfl (Nat.le_of_ble_eq_true rfl) ⟨(Nat.le_of_ble_eq_true rfl), (Nat.le_of_ble_eq_true rfl)⟩ dL_law_560 (fun r10 σ11 hw => ?_)
        refine xr_iload_n C 3 dL_law_563 rfl rfl ?_
        refine xr_iconst C dL_law_564 ?_
        obtain ⟨g12, hw⟩ := hw
        refine xr_icmp_ne C g12 ⟨by decide, by decide⟩ 572 dL_law_565 (by decide) (fun c13 => ?_) (fun c13 => ?_)
        · have hw := hw.1 c13
          refine xr_aload_n C 2 dL_law_572 rfl rfl ?_
          refine xr_bipush C dL_law_573 (by decide +kernel) ?_
          refine xr_iald C (t0 := 0) 9 rfl rfl (by decide) (N := 64) rfl ⟨by decide, by decide⟩ dL_law_575 ?_
          refine xr_iload_n C 3 dL_law_576 rfl rfl ?_
          refine xr_isub C dL_law_577 ?_
          refine xr_sub C [0, 1, 2, 3, 4] [(0, .ref b), (1, .ref (ad 0)), (2, .ref (ad 40)), (3, .int (i32 x3)), (4, .int (i32 x4))] rfl ?_
          exact B578 K122 hK122 x3 x4 r10 ((σ11 40 22) - x3) σ11 hw
        · have hw := hw.2 c13
          refine xr_iconst C dL_law_568 ?_
          refine xr_goto C 578 dL_law_569 (by decide) ?_
          refine xr_sub C [0, 1, 2, 3, 4] [(0, .ref b), (1, .ref (ad 0)), (2, .ref (ad 40)), (3, .int (i32 x3)), (4, .int (i32 x4))] rfl ?_
          exact B578 K122 hK122 x3 x4 r10 (-1) σ11 hw
  have B543 : ∀ (K122 : Int × Int × xS → Prop) (hK122 : ∀ a, K122 a → xX p l e room_1 s m #[.ref b] below meth c D vwCl (fun q : Nat => s.heap.size ≤ q) (wXA .null ad cI cJ cZ) FL σ00 10 907 (lw_Z below #[.ref b] s) 10 (a.2.2) 122 [(0, .ref b), (1, .ref (ad 0)), (2, .ref (ad 40)), (3, .int (i32 (a.1))), (4, .int (i32 (a.2.1)))] []) (x3 x4 y0 : Int) (σ0 : xS), vL_law_543 K122 Q x3 x4 y0 σ0 → xX p l e room_1 s m #[.ref b] below meth c D vwCl (fun q : Nat => s.heap.size ≤ q) (wXA .null ad cI cJ cZ) FL σ00 10 907 (lw_Z below #[.ref b] s) 10 σ0 543 [(0, .ref b), (1, .ref (ad 0)), (2, .ref (ad 40)), (3, .int (i32 x3)), (4, .int (i32 x4))] [.int (i32 y0)] := by
    intro K122 hK122 x3 x4 y0 σ0 hw
    unfold vL_law_543 at hw
    refine xr_istore C [(0, .ref b), (1, .ref (ad 0)), (2, .ref (ad 40)), (3, .int (i32 x3)), (4, .int (i32 x4)), (7, .int (i32 y0))] dL_law_543 (by decide) rfl ?_
    exact B545 K122 hK122 x3 x4 y0 σ0 hw
  have B479 : ∀ (K122 : Int × Int × xS → Prop) (hK122 : ∀ a, K122 a → xX p l e room_1 s m #[.ref b] below meth c D vwCl (fun q : Nat => s.heap.size ≤ q) (wXA .null ad cI cJ cZ) FL σ00 10 907 (lw_Z below #[.ref b] s) 10 (a.2.2) 122 [(0, .ref b), (1, .ref (ad 0)), (2, .ref (ad 40)), (3, .int (i32 (a.1))), (4, .int (i32 (a.2.1)))] []) (x3 x4 y0 y1 y2 : Int) (σ0 : xS), vL_law_479 K122 Q x3 x4 y0 y1 y2 σ0 → xX p l e room_1 s m #[.ref b] below meth c D vwCl (fun q : Nat => s.heap.size ≤ q) (wXA .null ad cI cJ cZ) FL σ00 10 907 (lw_Z below #[.ref b] s) 10 σ0 479 [(0, .ref b), (1, .ref (ad 0)), (2, .ref (ad 40)), (3, .int (i32 x3)), (4, .int (i32 x4))] [.int (i32 y2), .int (i32 y1), .int (i32 y0)] := by
    intro K122 hK122 x3 x4 y0 y1 y2 σ0 hw
    unfold vL_law_479 at hw
    refine xr_callSi C (As := [.int (i32 y1), .int (i32 y2)]) (rest := [.int (i32 y0)]) (xSp_nil _) (by decide) (fun _ => trivial) (mL_low σ0 y1 y2 _ hw) (va_cwS 2 C.2.2.2.2.1 gL_law_L_low rfl rfl rfl (by decide +kernel) ⟨(Nat.le_of_ble_eq_true rfl), (Nat.le_of_ble_eq_true rfl)⟩) rfl rfl (Nat.le_of_ble_eq_true rfl) ⟨(Nat.le_of_ble_eq_true rfl), (Nat.le_of_ble_eq_true rfl)⟩ dL_law_479 (fun r14 σ15 hw => ?_)
    refine xr_iadd C dL_law_482 ?_
    refine xr_istore C [(0, .ref b), (1, .ref (ad 0)), (2, .ref (ad 40)), (3, .int (i32 x3)), (4, .int (i32 x4)), (8, .int (i32 (y0 + r14)))] dL_law_483 (by decide) rfl ?_
    refine xr_aload_n C 2 dL_law_485 rfl rfl ?_
    refine xr_iload C 5 dL_law_486 rfl ?_
    refine xr_callSi C (As := [.ref (ad 40), .int (i32 (y0 + r14))]) (rest := []) (sp_wXA_wA .null ad cI cJ cZ) (by decide) (fun _ => trivial) (mL_passes σ15 (y0 + r14) _ hw) (va_cwS 2 C.2.2.2.2.1 gL_law_L_passes rfl rfl rfl (by decide +kernel) ⟨(Nat.le_of_ble_eq_true rfl), (Nat.le_of_ble_eq_true rfl)⟩) rfl rfl (Nat.le_of_ble_eq_true rfl) ⟨(Nat.le_of_ble_eq_true rfl), (Nat.le_of_ble_eq_true rfl)⟩ dL_law_488 (fun r16 σ17 hw => ?_)
    refine xr_istore C [(0, .ref b), (1, .ref (ad 0)), (2, .ref (ad 40)), (3, .int (i32 x3)), (4, .int (i32 x4)), (8, .int (i32 (y0 + r14))), (9, .int (i32 r16))] dL_law_491 (by decide) rfl ?_
    refine xr_aload_n C 1 dL_law_493 rfl rfl ?_
    refine xr_iload C 5 dL_law_494 rfl ?_
    refine xr_callVi C (ci := 3) (q0 := 0) (As := [.int (i32 (y0 + r14))]) (rest := []) (sp_wXA_wX .null ad cI cJ cZ) (by decide) (fun _ => trivial) (mX4_pass σ17 (y0 + r14) _ hw) (cwV 1 C.2.2.2.2.1 gL_law_X4_pass rfl rfl rfl (by decide +kernel) ⟨(Nat.le_of_ble_eq_true rfl), (Nat.le_of_ble_eq_true rfl)⟩) rfl rfl rfl rfl (Nat.le_of_ble_eq_true rfl) ⟨(Nat.le_of_ble_eq_true rfl), (Nat.le_of_ble_eq_true rfl)⟩ dL_law_496 (fun r18 σ19 hw => ?_)
    refine xr_iload C 6 dL_law_499 rfl ?_
    obtain ⟨g20, hw⟩ := hw
    obtain ⟨g21, hw⟩ := hw
    refine xr_icmp_ne C g20 g21 508 dL_law_501 (by decide) (fun c22 => ?_) (fun c22 => ?_)
    · have hw := hw.1 c22
      refine xr_iconst C dL_law_508 ?_
      refine xr_istore C [(0, .ref b), (1, .ref (ad 0)), (2, .ref (ad 40)), (3, .int (i32 x3)), (4, .int (i32 x4)), (7, .int (i32 0)), (8, .int (i32 (y0 + r14))), (9, .int (i32 r16))] dL_law_509 (by decide) rfl ?_
      refine xr_goto C 545 dL_law_511 (by decide) ?_
      refine xr_sub C [0, 1, 2, 3, 4, 5] [(0, .ref b), (1, .ref (ad 0)), (2, .ref (ad 40)), (3, .int (i32 x3)), (4, .int (i32 x4)), (7, .int (i32 0))] rfl ?_
      exact B545 K122 hK122 x3 x4 0 σ19 hw
    · have hw := hw.2 c22
      refine xr_iconst C dL_law_504 ?_
      refine xr_goto C 509 dL_law_505 (by decide) ?_
      refine xr_istore C [(0, .ref b), (1, .ref (ad 0)), (2, .ref (ad 40)), (3, .int (i32 x3)), (4, .int (i32 x4)), (7, .int (i32 1)), (8, .int (i32 (y0 + r14))), (9, .int (i32 r16))] dL_law_509 (by decide) rfl ?_
      refine xr_goto C 545 dL_law_511 (by decide) ?_
      refine xr_sub C [0, 1, 2, 3, 4, 5] [(0, .ref b), (1, .ref (ad 0)), (2, .ref (ad 40)), (3, .int (i32 x3)), (4, .int (i32 x4)), (7, .int (i32 1))] rfl ?_
      exact B545 K122 hK122 x3 x4 1 σ19 hw
  have B455 : ∀ (K122 : Int × Int × xS → Prop) (hK122 : ∀ a, K122 a → xX p l e room_1 s m #[.ref b] below meth c D vwCl (fun q : Nat => s.heap.size ≤ q) (wXA .null ad cI cJ cZ) FL σ00 10 907 (lw_Z below #[.ref b] s) 10 (a.2.2) 122 [(0, .ref b), (1, .ref (ad 0)), (2, .ref (ad 40)), (3, .int (i32 (a.1))), (4, .int (i32 (a.2.1)))] []) (x3 x4 x5 : Int) (σ0 : xS), vL_law_455 K122 Q x3 x4 x5 σ0 → xX p l e room_1 s m #[.ref b] below meth c D vwCl (fun q : Nat => s.heap.size ≤ q) (wXA .null ad cI cJ cZ) FL σ00 10 907 (lw_Z below #[.ref b] s) 10 σ0 455 [(0, .ref b), (1, .ref (ad 0)), (2, .ref (ad 40)), (3, .int (i32 x3)), (4, .int (i32 x4)), (5, .int (i32 x5))] [] := by
    intro K122 hK122 x3 x4 x5 σ0 hw
    unfold vL_law_455 at hw
    refine xr_iconst C dL_law_455 ?_
    refine xr_iload C 5 dL_law_456 rfl ?_
    refine xr_bipush C dL_law_458 (by decide +kernel) ?_
    refine xr_ishr C dL_law_460 ?_
    refine xr_iload C 5 dL_law_461 rfl ?_
    refine xr_bipush C dL_law_463 (by decide +kernel) ?_
    refine xr_ishr C dL_law_465 ?_
    refine xr_iconst C dL_law_466 ?_
    refine xr_callSi C (As := [.int (i32 (jshr x5 12)), .int (i32 4)]) (rest := [.int (i32 (jshr x5 7)), .int (i32 1)]) (xSp_nil _) (by decide) (fun _ => trivial) (mL_low σ0 (jshr x5 12) 4 _ hw) (va_cwS 2 C.2.2.2.2.1 gL_law_L_low rfl rfl rfl (by decide +kernel) ⟨(Nat.le_of_ble_eq_true rfl), (Nat.le_of_ble_eq_true rfl)⟩) rfl rfl (Nat.le_of_ble_eq_true rfl) ⟨(Nat.le_of_ble_eq_true rfl), (Nat.le_of_ble_eq_true rfl)⟩ dL_law_467 (fun r23 σ24 hw => ?_)
    obtain ⟨g25, hw⟩ := hw
    refine xr_if_ne C g25 478 dL_law_470 (by decide) (fun c26 => ?_) (fun c26 => ?_)
    · have hw := hw.1 c26
      refine xr_iconst C dL_law_478 ?_
      refine xr_sub C [0, 1, 2, 3, 4] [(0, .ref b), (1, .ref (ad 0)), (2, .ref (ad 40)), (3, .int (i32 x3)), (4, .int (i32 x4))] rfl ?_
      exact B479 K122 hK122 x3 x4 1 (jshr x5 7) 4 σ24 hw
    · have hw := hw.2 c26
      refine xr_bipush C dL_law_473 (by decide +kernel) ?_
      refine xr_goto C 479 dL_law_475 (by decide) ?_
      refine xr_sub C [0, 1, 2, 3, 4] [(0, .ref b), (1, .ref (ad 0)), (2, .ref (ad 40)), (3, .int (i32 x3)), (4, .int (i32 x4))] rfl ?_
      exact B479 K122 hK122 x3 x4 1 (jshr x5 7) 15 σ24 hw
  have B404 : ∀ (K122 : Int × Int × xS → Prop) (hK122 : ∀ a, K122 a → xX p l e room_1 s m #[.ref b] below meth c D vwCl (fun q : Nat => s.heap.size ≤ q) (wXA .null ad cI cJ cZ) FL σ00 10 907 (lw_Z below #[.ref b] s) 10 (a.2.2) 122 [(0, .ref b), (1, .ref (ad 0)), (2, .ref (ad 40)), (3, .int (i32 (a.1))), (4, .int (i32 (a.2.1)))] []) (x3 x4 : Int) (σ0 : xS), vL_law_404 K122 Q x3 x4 σ0 → xX p l e room_1 s m #[.ref b] below meth c D vwCl (fun q : Nat => s.heap.size ≤ q) (wXA .null ad cI cJ cZ) FL σ00 10 907 (lw_Z below #[.ref b] s) 10 σ0 404 [(0, .ref b), (1, .ref (ad 0)), (2, .ref (ad 40)), (3, .int (i32 x3)), (4, .int (i32 x4))] [] := by
    intro K122 hK122 x3 x4 σ0 hw
    unfold vL_law_404 at hw
    refine xr_aload_n C 2 dL_law_404 rfl rfl ?_
    refine xr_callSi C (As := [.ref (ad 40)]) (rest := []) (sp_wXA_wA .null ad cI cJ cZ) (by decide) (fun _ => trivial) (mL_runsAny σ0 _ hw) (va_cwS 1 C.2.2.2.2.1 gL_law_L_runsAny rfl rfl rfl (by decide +kernel) ⟨(Nat.le_of_ble_eq_true rfl), (Nat.le_of_ble_eq_true rfl)⟩) rfl rfl (Nat.le_of_ble_eq_true rfl) ⟨(Nat.le_of_ble_eq_true rfl), (Nat.le_of_ble_eq_true rfl)⟩ dL_law_405 (fun r27 σ28 hw => ?_)
    obtain ⟨g29, hw⟩ := hw
    refine xr_if_eq C g29 436 dL_law_408 (by decide) (fun c30 => ?_) (fun c30 => ?_)
    · have hw := hw.1 c30
      refine xr_aload_n C 1 dL_law_436 rfl rfl ?_
      refine xr_callVi C (ci := 3) (q0 := 0) (As := []) (rest := []) (sp_wXA_wX .null ad cI cJ cZ) (by decide) (fun _ => trivial) (mX4_await σ28 _ hw) (cwV 0 C.2.2.2.2.1 gL_law_X4_await rfl rfl rfl (by decide +kernel) ⟨(Nat.le_of_ble_eq_true rfl), (Nat.le_of_ble_eq_true rfl)⟩) rfl rfl rfl rfl (Nat.le_of_ble_eq_true rfl) ⟨(Nat.le_of_ble_eq_true rfl), (Nat.le_of_ble_eq_true rfl)⟩ dL_law_437 (fun r31 σ32 hw => ?_)
      refine xr_bipush C dL_law_440 (by decide +kernel) ?_
      obtain ⟨g33, hw⟩ := hw
      refine xr_icmp_ne C g33 ⟨by decide, by decide⟩ 449 dL_law_442 (by decide) (fun c34 => ?_) (fun c34 => ?_)
      · have hw := hw.1 c34
        refine xr_iconst C dL_law_449 ?_
        refine xr_istore C [(0, .ref b), (1, .ref (ad 0)), (2, .ref (ad 40)), (3, .int (i32 x3)), (4, .int (i32 x4)), (7, .int (i32 0))] dL_law_450 (by decide) rfl ?_
        refine xr_goto C 545 dL_law_452 (by decide) ?_
        exact B545 K122 hK122 x3 x4 0 σ32 hw
      · have hw := hw.2 c34
        refine xr_iconst C dL_law_445 ?_
        refine xr_goto C 450 dL_law_446 (by decide) ?_
        refine xr_istore C [(0, .ref b), (1, .ref (ad 0)), (2, .ref (ad 40)), (3, .int (i32 x3)), (4, .int (i32 x4)), (7, .int (i32 1))] dL_law_450 (by decide) rfl ?_
        refine xr_goto C 545 dL_law_452 (by decide) ?_
        exact B545 K122 hK122 x3 x4 1 σ32 hw
    · have hw := hw.2 c30
      refine xr_aload_n C 2 dL_law_411 rfl rfl ?_
      refine xr_callSi C (As := [.ref (ad 40)]) (rest := []) (sp_wXA_wA .null ad cI cJ cZ) (by decide) (fun _ => trivial) (mL_awaits σ28 _ hw) (va_cwS 1 C.2.2.2.2.1 gL_law_L_awaits rfl rfl rfl (by decide +kernel) ⟨(Nat.le_of_ble_eq_true rfl), (Nat.le_of_ble_eq_true rfl)⟩) rfl rfl (Nat.le_of_ble_eq_true rfl) ⟨(Nat.le_of_ble_eq_true rfl), (Nat.le_of_ble_eq_true rfl)⟩ dL_law_412 (fun r35 σ36 hw => ?_)
      refine xr_istore C [(0, .ref b), (1, .ref (ad 0)), (2, .ref (ad 40)), (3, .int (i32 x3)), (4, .int (i32 x4)), (8, .int (i32 r35))] dL_law_415 (by decide) rfl ?_
      refine xr_aload_n C 1 dL_law_417 rfl rfl ?_
      refine xr_callVi C (ci := 3) (q0 := 0) (As := []) (rest := []) (sp_wXA_wX .null ad cI cJ cZ) (by decide) (fun _ => trivial) (mX4_await σ36 _ hw) (cwV 0 C.2.2.2.2.1 gL_law_X4_await rfl rfl rfl (by decide +kernel) ⟨(Nat.le_of_ble_eq_true rfl), (Nat.le_of_ble_eq_true rfl)⟩) rfl rfl rfl rfl (Nat.le_of_ble_eq_true rfl) ⟨(Nat.le_of_ble_eq_true rfl), (Nat.le_of_ble_eq_true rfl)⟩ dL_law_418 (fun r37 σ38 hw => ?_)
      refine xr_iload C 5 dL_law_421 rfl ?_
      obtain ⟨g39, hw⟩ := hw
      obtain ⟨g40, hw⟩ := hw
      refine xr_icmp_ne C g39 g40 430 dL_law_423 (by decide) (fun c41 => ?_) (fun c41 => ?_)
      · have hw := hw.1 c41
        refine xr_iconst C dL_law_430 ?_
        refine xr_istore C [(0, .ref b), (1, .ref (ad 0)), (2, .ref (ad 40)), (3, .int (i32 x3)), (4, .int (i32 x4)), (7, .int (i32 0)), (8, .int (i32 r35))] dL_law_431 (by decide) rfl ?_
        refine xr_goto C 545 dL_law_433 (by decide) ?_
        refine xr_sub C [0, 1, 2, 3, 4, 5] [(0, .ref b), (1, .ref (ad 0)), (2, .ref (ad 40)), (3, .int (i32 x3)), (4, .int (i32 x4)), (7, .int (i32 0))] rfl ?_
        exact B545 K122 hK122 x3 x4 0 σ38 hw
      · have hw := hw.2 c41
        refine xr_iconst C dL_law_426 ?_
        refine xr_goto C 431 dL_law_427 (by decide) ?_
        refine xr_istore C [(0, .ref b), (1, .ref (ad 0)), (2, .ref (ad 40)), (3, .int (i32 x3)), (4, .int (i32 x4)), (7, .int (i32 1)), (8, .int (i32 r35))] dL_law_431 (by decide) rfl ?_
        refine xr_goto C 545 dL_law_433 (by decide) ?_
        refine xr_sub C [0, 1, 2, 3, 4, 5] [(0, .ref b), (1, .ref (ad 0)), (2, .ref (ad 40)), (3, .int (i32 x3)), (4, .int (i32 x4)), (7, .int (i32 1))] rfl ?_
        exact B545 K122 hK122 x3 x4 1 σ38 hw
  have B394 : ∀ (K122 : Int × Int × xS → Prop) (hK122 : ∀ a, K122 a → xX p l e room_1 s m #[.ref b] below meth c D vwCl (fun q : Nat => s.heap.size ≤ q) (wXA .null ad cI cJ cZ) FL σ00 10 907 (lw_Z below #[.ref b] s) 10 (a.2.2) 122 [(0, .ref b), (1, .ref (ad 0)), (2, .ref (ad 40)), (3, .int (i32 (a.1))), (4, .int (i32 (a.2.1)))] []) (x4 y0 : Int) (σ0 : xS), vL_law_394 K122 Q x4 y0 σ0 → xX p l e room_1 s m #[.ref b] below meth c D vwCl (fun q : Nat => s.heap.size ≤ q) (wXA .null ad cI cJ cZ) FL σ00 10 907 (lw_Z below #[.ref b] s) 10 σ0 394 [(0, .ref b), (1, .ref (ad 0)), (2, .ref (ad 40)), (4, .int (i32 x4))] [.int (i32 y0)] := by
    intro K122 hK122 x4 y0 σ0 hw
    unfold vL_law_394 at hw
    refine xr_istore C [(0, .ref b), (1, .ref (ad 0)), (2, .ref (ad 40)), (4, .int (i32 x4)), (7, .int (i32 y0))] dL_law_394 (by decide) rfl ?_
    refine xr_aload_n C 2 dL_law_396 rfl rfl ?_
    refine xr_bipush C dL_law_397 (by decide +kernel) ?_
    refine xr_iald C (t0 := 0) 9 rfl rfl (by decide) (N := 64) rfl ⟨by decide, by decide⟩ dL_law_399 ?_
    refine xr_istore_n C [(0, .ref b), (1, .ref (ad 0)), (2, .ref (ad 40)), (3, .int (i32 (σ0 40 22))), (4, .int (i32 x4)), (7, .int (i32 y0))] dL_law_400 rfl (by decide) rfl ?_
    refine xr_goto C 545 dL_law_401 (by decide) ?_
    exact B545 K122 hK122 (σ0 40 22) x4 y0 σ0 hw
  have L122 : ∀ a, mu (vL_law_122  Q) a → xX p l e room_1 s m #[.ref b] below meth c D vwCl (fun q : Nat => s.heap.size ≤ q) (wXA .null ad cI cJ cZ) FL σ00 10 907 (lw_Z below #[.ref b] s) 10 (a.2.2) 122 [(0, .ref b), (1, .ref (ad 0)), (2, .ref (ad 40)), (3, .int (i32 (a.1))), (4, .int (i32 (a.2.1)))] [] := by
    refine mu_ind (fun K122 hK122 a hw => ?_)
    obtain ⟨x3, x4, σ0⟩ := a
    show xX p l e room_1 s m #[.ref b] below meth c D vwCl (fun q : Nat => s.heap.size ≤ q) (wXA .null ad cI cJ cZ) FL σ00 10 907 (lw_Z below #[.ref b] s) 10 σ0 122 [(0, .ref b), (1, .ref (ad 0)), (2, .ref (ad 40)), (3, .int (i32 x3)), (4, .int (i32 x4))] []
    unfold vL_law_122 at hw
    refine xr_iload C 4 dL_law_122 rfl ?_
    refine xr_bipush C dL_law_124 (by decide +kernel) ?_
    obtain ⟨g42, hw⟩ := hw
    refine xr_icmp_ge C g42 ⟨by decide, by decide⟩ 589 dL_law_126 (by decide) (fun c43 => ?_) (fun c43 => ?_)
    · have hw := hw.1 c43
      refine xr_aload_n C 1 dL_law_589 rfl rfl ?_
      refine xr_sipush C dL_law_590 (by decide +kernel) ?_
      refine xr_callVi C (ci := 3) (q0 := 0) (As := [.int (i32 1000)]) (rest := []) (sp_wXA_wX .null ad cI cJ cZ) (by decide) (fun _ => trivial) (mX4_pass σ0 1000 _ hw) (cwV 1 C.2.2.2.2.1 gL_law_X4_pass rfl rfl rfl (by decide +kernel) ⟨(Nat.le_of_ble_eq_true rfl), (Nat.le_of_ble_eq_true rfl)⟩) rfl rfl rfl rfl (Nat.le_of_ble_eq_true rfl) ⟨(Nat.le_of_ble_eq_true rfl), (Nat.le_of_ble_eq_true rfl)⟩ dL_law_593 (fun r44 σ45 hw => ?_)
      refine xr_bipush C dL_law_596 (by decide +kernel) ?_
      obtain ⟨g46, hw⟩ := hw
      refine xr_icmp_ne C g46 ⟨by decide, by decide⟩ 626 dL_law_598 (by decide) (fun c47 => ?_) (fun c47 => ?_)
      · have hw := hw.1 c47
        refine xr_iconst C dL_law_626 ?_
        exact absurd (hQ _ _ hw) (by decide)
      · have hw := hw.2 c47
        refine xr_aload_n C 1 dL_law_601 rfl rfl ?_
        refine xr_bipush C dL_law_602 (by decide +kernel) ?_
        refine xr_callVi C (ci := 3) (q0 := 0) (As := [.int (i32 10)]) (rest := []) (sp_wXA_wX .null ad cI cJ cZ) (by decide) (fun _ => trivial) (mX4_count σ45 10 _ hw) (cwV 1 C.2.2.2.2.1 gL_law_X4_count rfl rfl rfl (by decide +kernel) ⟨(Nat.le_of_ble_eq_true rfl), (Nat.le_of_ble_eq_true rfl)⟩) rfl rfl rfl rfl (Nat.le_of_ble_eq_true rfl) ⟨(Nat.le_of_ble_eq_true rfl), (Nat.le_of_ble_eq_true rfl)⟩ dL_law_604 (fun r48 σ49 hw => ?_)
        refine xr_bipush C dL_law_607 (by decide +kernel) ?_
        obtain ⟨g50, hw⟩ := hw
        refine xr_icmp_ne C g50 ⟨by decide, by decide⟩ 626 dL_law_609 (by decide) (fun c51 => ?_) (fun c51 => ?_)
        · have hw := hw.1 c51
          refine xr_iconst C dL_law_626 ?_
          exact absurd (hQ _ _ hw) (by decide)
        · have hw := hw.2 c51
          refine xr_aload_n C 1 dL_law_612 rfl rfl ?_
          refine xr_iconst C dL_law_613 ?_
          refine xr_callVi C (ci := 3) (q0 := 0) (As := [.int (i32 3)]) (rest := []) (sp_wXA_wX .null ad cI cJ cZ) (by decide) (fun _ => trivial) (mX4_loosen σ49 3 _ hw) (cwV 1 C.2.2.2.2.1 gL_law_X4_loosen rfl rfl rfl (by decide +kernel) ⟨(Nat.le_of_ble_eq_true rfl), (Nat.le_of_ble_eq_true rfl)⟩) rfl rfl rfl rfl (Nat.le_of_ble_eq_true rfl) ⟨(Nat.le_of_ble_eq_true rfl), (Nat.le_of_ble_eq_true rfl)⟩ dL_law_614 (fun r52 σ53 hw => ?_)
          refine xr_bipush C dL_law_617 (by decide +kernel) ?_
          obtain ⟨g54, hw⟩ := hw
          refine xr_icmp_ne C g54 ⟨by decide, by decide⟩ 626 dL_law_619 (by decide) (fun c55 => ?_) (fun c55 => ?_)
          · have hw := hw.1 c55
            refine xr_iconst C dL_law_626 ?_
            exact absurd (hQ _ _ hw) (by decide)
          · have hw := hw.2 c55
            refine xr_iconst C dL_law_622 ?_
            refine xr_goto C 627 dL_law_623 (by decide) ?_
            intro hF H locs ls hP hD hS hl
            refine va_forget (fun q hq => hS.2.2 q hq) ?_
            exact lw_ret C.1 C.2.1 hr C.2.2.2.2.2.2.2.1 dL_law_627
    · have hw := hw.2 c43
      refine xr_aload_n C 0 dL_law_129 rfl rfl ?_
      refine xr_iload C 4 dL_law_130 rfl ?_
      obtain ⟨g56, hw⟩ := hw
      refine xr_cell C hX hbl hbA hL g56 (rest := []) (va_cwS 2 C.2.2.2.2.1 gL_law_L_cell rfl rfl rfl (by decide +kernel) ⟨(Nat.le_of_ble_eq_true rfl), (Nat.le_of_ble_eq_true rfl)⟩) rfl (Nat.le_of_ble_eq_true rfl) ⟨(Nat.le_of_ble_eq_true rfl), (Nat.le_of_ble_eq_true rfl)⟩ dL_law_132 (fun r57 h58 => ?_)
      have hw := hw r57 h58
      refine xr_istore C [(0, .ref b), (1, .ref (ad 0)), (2, .ref (ad 40)), (3, .int (i32 x3)), (4, .int (i32 x4)), (5, .int (i32 r57))] dL_law_135 (by decide) rfl ?_
      refine xr_iload C 5 dL_law_137 rfl ?_
      refine xr_iconst C dL_law_139 ?_
      refine xr_ishr C dL_law_140 ?_
      refine xr_aload_n C 2 dL_law_141 rfl rfl ?_
      refine xr_bipush C dL_law_142 (by decide +kernel) ?_
      refine xr_iald C (t0 := 0) 9 rfl rfl (by decide) (N := 64) rfl ⟨by decide, by decide⟩ dL_law_144 ?_
      refine xr_callSi C (As := [.int (i32 (jshr r57 4)), .int (i32 (σ0 40 21))]) (rest := []) (xSp_nil _) (by decide) (fun _ => trivial) (mL_low σ0 (jshr r57 4) (σ0 40 21) _ hw) (va_cwS 2 C.2.2.2.2.1 gL_law_L_low rfl rfl rfl (by decide +kernel) ⟨(Nat.le_of_ble_eq_true rfl), (Nat.le_of_ble_eq_true rfl)⟩) rfl rfl (Nat.le_of_ble_eq_true rfl) ⟨(Nat.le_of_ble_eq_true rfl), (Nat.le_of_ble_eq_true rfl)⟩ dL_law_145 (fun r59 σ60 hw => ?_)
      refine xr_istore C [(0, .ref b), (1, .ref (ad 0)), (2, .ref (ad 40)), (3, .int (i32 x3)), (4, .int (i32 x4)), (5, .int (i32 r57)), (6, .int (i32 r59))] dL_law_148 (by decide) rfl ?_
      refine xr_iload C 5 dL_law_150 rfl ?_
      refine xr_bipush C dL_law_152 (by decide +kernel) ?_
      refine xr_callSi C (As := [.int (i32 r57), .int (i32 13)]) (rest := []) (xSp_nil _) (by decide) (fun _ => trivial) (mL_low σ60 r57 13 _ hw) (va_cwS 2 C.2.2.2.2.1 gL_law_L_low rfl rfl rfl (by decide +kernel) ⟨(Nat.le_of_ble_eq_true rfl), (Nat.le_of_ble_eq_true rfl)⟩) rfl rfl (Nat.le_of_ble_eq_true rfl) ⟨(Nat.le_of_ble_eq_true rfl), (Nat.le_of_ble_eq_true rfl)⟩ dL_law_154 (fun r61 σ62 hw => ?_)
      obtain ⟨g63, hw⟩ := hw
      by_cases c64 : r61 < 0 ∨ 9 < r61
      · have hw := hw.1 c64
        refine xr_tabOut C g63 514 dL_law_157 c64 (by decide) ?_
        refine xr_aload_n C 2 dL_law_514 rfl rfl ?_
        refine xr_iload C 6 dL_law_515 rfl ?_
        refine xr_callSv C (As := [.ref (ad 40), .int (i32 r59)]) (rest := []) (sp_wXA_wA .null ad cI cJ cZ) (by decide) (fun _ => trivial) (mL_turns σ62 r59 _ hw) (va_cwS 2 C.2.2.2.2.1 gL_law_L_turns rfl rfl rfl (by decide +kernel) ⟨(Nat.le_of_ble_eq_true rfl), (Nat.le_of_ble_eq_true rfl)⟩) rfl rfl (Nat.le_of_ble_eq_true rfl) ⟨(Nat.le_of_ble_eq_true rfl), (Nat.le_of_ble_eq_true rfl)⟩ dL_law_517 (fun σ66 hw => ?_)
        refine xr_aload_n C 1 dL_law_520 rfl rfl ?_
        refine xr_iload C 6 dL_law_521 rfl ?_
        refine xr_callVi C (ci := 3) (q0 := 0) (As := [.int (i32 r59)]) (rest := []) (sp_wXA_wX .null ad cI cJ cZ) (by decide) (fun _ => trivial) (mX4_turn σ66 r59 _ hw) (cwV 1 C.2.2.2.2.1 gL_law_X4_turn rfl rfl rfl (by decide +kernel) ⟨(Nat.le_of_ble_eq_true rfl), (Nat.le_of_ble_eq_true rfl)⟩) rfl rfl rfl rfl (Nat.le_of_ble_eq_true rfl) ⟨(Nat.le_of_ble_eq_true rfl), (Nat.le_of_ble_eq_true rfl)⟩ dL_law_523 (fun r67 σ68 hw => ?_)
        refine xr_aload_n C 2 dL_law_526 rfl rfl ?_
        refine xr_bipush C dL_law_527 (by decide +kernel) ?_
        refine xr_iload C 6 dL_law_529 rfl ?_
        refine xr_imul C dL_law_531 ?_
        refine xr_iconst C dL_law_532 ?_
        refine xr_iadd C dL_law_533 ?_
        obtain ⟨g69, hw⟩ := hw
        refine xr_iald C (t0 := 0) 9 rfl rfl (by decide) (N := 64) rfl g69 dL_law_534 ?_
        obtain ⟨g70, hw⟩ := hw
        obtain ⟨g71, hw⟩ := hw
        refine xr_icmp_ne C g70 g71 542 dL_law_535 (by decide) (fun c72 => ?_) (fun c72 => ?_)
        · have hw := hw.1 c72
          refine xr_iconst C dL_law_542 ?_
          refine xr_sub C [0, 1, 2, 3, 4] [(0, .ref b), (1, .ref (ad 0)), (2, .ref (ad 40)), (3, .int (i32 x3)), (4, .int (i32 x4))] rfl ?_
          exact B543 K122 hK122 x3 x4 0 σ68 hw
        · have hw := hw.2 c72
          refine xr_iconst C dL_law_538 ?_
          refine xr_goto C 543 dL_law_539 (by decide) ?_
          refine xr_sub C [0, 1, 2, 3, 4] [(0, .ref b), (1, .ref (ad 0)), (2, .ref (ad 40)), (3, .int (i32 x3)), (4, .int (i32 x4))] rfl ?_
          exact B543 K122 hK122 x3 x4 1 σ68 hw
      · have hw := hw.2
        have hbc64 : (0 : Int) ≤ r61 := Int.not_lt.mp (fun q => c64 (Or.inl q))
        by_cases c73 : r61 = 0
        · have hw := hw.1 c73
          refine xr_tabIn C (off := 55) 0 c73 ⟨by decide, by decide⟩ 212 dL_law_157 (by decide) (by decide) (by decide +kernel) (by decide) ?_
          refine xr_aload_n C 1 dL_law_212 rfl rfl ?_
          refine xr_aload_n C 2 dL_law_213 rfl rfl ?_
          refine xr_iload C 6 dL_law_214 rfl ?_
          refine xr_iload C 5 dL_law_216 rfl ?_
          refine xr_bipush C dL_law_218 (by decide +kernel) ?_
          refine xr_ishr C dL_law_220 ?_
          refine xr_aload_n C 2 dL_law_221 rfl rfl ?_
          refine xr_bipush C dL_law_222 (by decide +kernel) ?_
          refine xr_iald C (t0 := 0) 9 rfl rfl (by decide) (N := 64) rfl ⟨by decide, by decide⟩ dL_law_224 ?_
          refine xr_callSi C (As := [.int (i32 (jshr r57 7)), .int (i32 (σ62 40 21))]) (rest := [.int (i32 r59), .ref (ad 40), .ref (ad 0)]) (xSp_nil _) (by decide) (fun _ => trivial) (mL_low σ62 (jshr r57 7) (σ62 40 21) _ hw) (va_cwS 2 C.2.2.2.2.1 gL_law_L_low rfl rfl rfl (by decide +kernel) ⟨(Nat.le_of_ble_eq_true rfl), (Nat.le_of_ble_eq_true rfl)⟩) rfl rfl (Nat.le_of_ble_eq_true rfl) ⟨(Nat.le_of_ble_eq_true rfl), (Nat.le_of_ble_eq_true rfl)⟩ dL_law_225 (fun r74 σ75 hw => ?_)
          refine xr_callSi C (As := [.ref (ad 0), .ref (ad 40), .int (i32 r59), .int (i32 r74)]) (rest := []) (xSp_rf _ _) (by decide) (fun _ => trivial) (mL_fixes σ75 r59 r74 _ hw) (va_cwS 4 C.2.2.2.2.1 gL_law_L_fixes rfl rfl rfl (by decide +kernel) ⟨(Nat.le_of_ble_eq_true rfl), (Nat.le_of_ble_eq_true rfl)⟩) rfl rfl (Nat.le_of_ble_eq_true rfl) ⟨(Nat.le_of_ble_eq_true rfl), (Nat.le_of_ble_eq_true rfl)⟩ dL_law_228 (fun r76 σ77 hw => ?_)
          refine xr_istore C [(0, .ref b), (1, .ref (ad 0)), (2, .ref (ad 40)), (3, .int (i32 x3)), (4, .int (i32 x4)), (5, .int (i32 r57)), (6, .int (i32 r59)), (7, .int (i32 r76))] dL_law_231 (by decide) rfl ?_
          refine xr_goto C 545 dL_law_233 (by decide) ?_
          refine xr_sub C [0, 1, 2, 3, 4, 7] [(0, .ref b), (1, .ref (ad 0)), (2, .ref (ad 40)), (3, .int (i32 x3)), (4, .int (i32 x4)), (7, .int (i32 r76))] rfl ?_
          exact B545 K122 hK122 x3 x4 r76 σ77 hw
        · have hw := hw.2
          have hbc64 : (1 : Int) ≤ r61 := Int.lt_iff_le_and_ne.mpr ⟨hbc64, fun q => c73 q.symm⟩
          by_cases c78 : r61 = 1
          · have hw := hw.1 c78
            refine xr_tabIn C (off := 79) 1 c78 ⟨by decide, by decide⟩ 236 dL_law_157 (by decide) (by decide) (by decide +kernel) (by decide) ?_
            refine xr_iload C 5 dL_law_236 rfl ?_
            refine xr_bipush C dL_law_238 (by decide +kernel) ?_
            refine xr_ishr C dL_law_240 ?_
            refine xr_iconst C dL_law_241 ?_
            refine xr_callSi C (As := [.int (i32 (jshr r57 7)), .int (i32 2)]) (rest := []) (xSp_nil _) (by decide) (fun _ => trivial) (mL_low σ62 (jshr r57 7) 2 _ hw) (va_cwS 2 C.2.2.2.2.1 gL_law_L_low rfl rfl rfl (by decide +kernel) ⟨(Nat.le_of_ble_eq_true rfl), (Nat.le_of_ble_eq_true rfl)⟩) rfl rfl (Nat.le_of_ble_eq_true rfl) ⟨(Nat.le_of_ble_eq_true rfl), (Nat.le_of_ble_eq_true rfl)⟩ dL_law_242 (fun r79 σ80 hw => ?_)
            obtain ⟨g81, hw⟩ := hw
            refine xr_if_ne C g81 258 dL_law_245 (by decide) (fun c82 => ?_) (fun c82 => ?_)
            · have hw := hw.1 c82
              refine xr_iload C 5 dL_law_258 rfl ?_
              refine xr_bipush C dL_law_260 (by decide +kernel) ?_
              refine xr_ishr C dL_law_262 ?_
              refine xr_iconst C dL_law_263 ?_
              refine xr_callSi C (As := [.int (i32 (jshr r57 8)), .int (i32 4)]) (rest := []) (xSp_nil _) (by decide) (fun _ => trivial) (mL_low σ80 (jshr r57 8) 4 _ hw) (va_cwS 2 C.2.2.2.2.1 gL_law_L_low rfl rfl rfl (by decide +kernel) ⟨(Nat.le_of_ble_eq_true rfl), (Nat.le_of_ble_eq_true rfl)⟩) rfl rfl (Nat.le_of_ble_eq_true rfl) ⟨(Nat.le_of_ble_eq_true rfl), (Nat.le_of_ble_eq_true rfl)⟩ dL_law_264 (fun r83 σ84 hw => ?_)
              obtain ⟨g85, hw⟩ := hw
              refine xr_if_gt C g85 289 dL_law_267 (by decide) (fun c86 => ?_) (fun c86 => ?_)
              · have hw := hw.1 c86
                refine xr_iconst C dL_law_289 ?_
                refine xr_goto C 294 dL_law_290 (by decide) ?_
                refine xr_istore C [(0, .ref b), (1, .ref (ad 0)), (2, .ref (ad 40)), (3, .int (i32 x3)), (4, .int (i32 x4)), (5, .int (i32 r57)), (6, .int (i32 r59)), (7, .int (i32 1))] dL_law_294 (by decide) rfl ?_
                refine xr_goto C 545 dL_law_296 (by decide) ?_
                refine xr_sub C [0, 1, 2, 3, 4, 7] [(0, .ref b), (1, .ref (ad 0)), (2, .ref (ad 40)), (3, .int (i32 x3)), (4, .int (i32 x4)), (7, .int (i32 1))] rfl ?_
                exact B545 K122 hK122 x3 x4 1 σ84 hw
              · have hw := hw.2 c86
                refine xr_aload_n C 1 dL_law_270 rfl rfl ?_
                refine xr_aload_n C 2 dL_law_271 rfl rfl ?_
                refine xr_iconst C dL_law_272 ?_
                refine xr_iload C 5 dL_law_273 rfl ?_
                refine xr_bipush C dL_law_275 (by decide +kernel) ?_
                refine xr_ishr C dL_law_277 ?_
                refine xr_iconst C dL_law_278 ?_
                refine xr_callSi C (As := [.int (i32 (jshr r57 10)), .int (i32 3)]) (rest := [.int (i32 1), .ref (ad 40), .ref (ad 0)]) (xSp_nil _) (by decide) (fun _ => trivial) (mL_low σ84 (jshr r57 10) 3 _ hw) (va_cwS 2 C.2.2.2.2.1 gL_law_L_low rfl rfl rfl (by decide +kernel) ⟨(Nat.le_of_ble_eq_true rfl), (Nat.le_of_ble_eq_true rfl)⟩) rfl rfl (Nat.le_of_ble_eq_true rfl) ⟨(Nat.le_of_ble_eq_true rfl), (Nat.le_of_ble_eq_true rfl)⟩ dL_law_279 (fun r87 σ88 hw => ?_)
                refine xr_iadd C dL_law_282 ?_
                refine xr_callSi C (As := [.ref (ad 0), .ref (ad 40), .int (i32 (1 + r87))]) (rest := []) (xSp_rf _ _) (by decide) (fun _ => trivial) (mL_setsGlasses σ88 (1 + r87) _ hw) (va_cwS 3 C.2.2.2.2.1 gL_law_L_setsGlasses rfl rfl rfl (by decide +kernel) ⟨(Nat.le_of_ble_eq_true rfl), (Nat.le_of_ble_eq_true rfl)⟩) rfl rfl (Nat.le_of_ble_eq_true rfl) ⟨(Nat.le_of_ble_eq_true rfl), (Nat.le_of_ble_eq_true rfl)⟩ dL_law_283 (fun r89 σ90 hw => ?_)
                obtain ⟨g91, hw⟩ := hw
                refine xr_if_eq C g91 293 dL_law_286 (by decide) (fun c92 => ?_) (fun c92 => ?_)
                · have hw := hw.1 c92
                  refine xr_iconst C dL_law_293 ?_
                  refine xr_istore C [(0, .ref b), (1, .ref (ad 0)), (2, .ref (ad 40)), (3, .int (i32 x3)), (4, .int (i32 x4)), (5, .int (i32 r57)), (6, .int (i32 r59)), (7, .int (i32 0))] dL_law_294 (by decide) rfl ?_
                  refine xr_goto C 545 dL_law_296 (by decide) ?_
                  refine xr_sub C [0, 1, 2, 3, 4, 7] [(0, .ref b), (1, .ref (ad 0)), (2, .ref (ad 40)), (3, .int (i32 x3)), (4, .int (i32 x4)), (7, .int (i32 0))] rfl ?_
                  exact B545 K122 hK122 x3 x4 0 σ90 hw
                · have hw := hw.2 c92
                  refine xr_iconst C dL_law_289 ?_
                  refine xr_goto C 294 dL_law_290 (by decide) ?_
                  refine xr_istore C [(0, .ref b), (1, .ref (ad 0)), (2, .ref (ad 40)), (3, .int (i32 x3)), (4, .int (i32 x4)), (5, .int (i32 r57)), (6, .int (i32 r59)), (7, .int (i32 1))] dL_law_294 (by decide) rfl ?_
                  refine xr_goto C 545 dL_law_296 (by decide) ?_
                  refine xr_sub C [0, 1, 2, 3, 4, 7] [(0, .ref b), (1, .ref (ad 0)), (2, .ref (ad 40)), (3, .int (i32 x3)), (4, .int (i32 x4)), (7, .int (i32 1))] rfl ?_
                  exact B545 K122 hK122 x3 x4 1 σ90 hw
            · have hw := hw.2 c82
              refine xr_aload_n C 1 dL_law_248 rfl rfl ?_
              refine xr_aload_n C 2 dL_law_249 rfl rfl ?_
              refine xr_iload C 6 dL_law_250 rfl ?_
              refine xr_callSi C (As := [.ref (ad 0), .ref (ad 40), .int (i32 r59)]) (rest := []) (xSp_rf _ _) (by decide) (fun _ => trivial) (mL_loosens σ80 r59 _ hw) (va_cwS 3 C.2.2.2.2.1 gL_law_L_loosens rfl rfl rfl (by decide +kernel) ⟨(Nat.le_of_ble_eq_true rfl), (Nat.le_of_ble_eq_true rfl)⟩) rfl rfl (Nat.le_of_ble_eq_true rfl) ⟨(Nat.le_of_ble_eq_true rfl), (Nat.le_of_ble_eq_true rfl)⟩ dL_law_252 (fun r93 σ94 hw => ?_)
              refine xr_goto C 294 dL_law_255 (by decide) ?_
              refine xr_istore C [(0, .ref b), (1, .ref (ad 0)), (2, .ref (ad 40)), (3, .int (i32 x3)), (4, .int (i32 x4)), (5, .int (i32 r57)), (6, .int (i32 r59)), (7, .int (i32 r93))] dL_law_294 (by decide) rfl ?_
              refine xr_goto C 545 dL_law_296 (by decide) ?_
              refine xr_sub C [0, 1, 2, 3, 4, 7] [(0, .ref b), (1, .ref (ad 0)), (2, .ref (ad 40)), (3, .int (i32 x3)), (4, .int (i32 x4)), (7, .int (i32 r93))] rfl ?_
              exact B545 K122 hK122 x3 x4 r93 σ94 hw
          · have hw := hw.2
            have hbc64 : (2 : Int) ≤ r61 := Int.lt_iff_le_and_ne.mpr ⟨hbc64, fun q => c78 q.symm⟩
            by_cases c95 : r61 = 2
            · have hw := hw.1 c95
              refine xr_tabIn C (off := 142) 2 c95 ⟨by decide, by decide⟩ 299 dL_law_157 (by decide) (by decide) (by decide +kernel) (by decide) ?_
              refine xr_aload_n C 1 dL_law_299 rfl rfl ?_
              refine xr_aload_n C 2 dL_law_300 rfl rfl ?_
              refine xr_iload C 6 dL_law_301 rfl ?_
              refine xr_iconst C dL_law_303 ?_
              refine xr_iload C 5 dL_law_304 rfl ?_
              refine xr_bipush C dL_law_306 (by decide +kernel) ?_
              refine xr_ishr C dL_law_308 ?_
              refine xr_bipush C dL_law_309 (by decide +kernel) ?_
              refine xr_callSi C (As := [.int (i32 (jshr r57 7)), .int (i32 12)]) (rest := [.int (i32 1), .int (i32 r59), .ref (ad 40), .ref (ad 0)]) (xSp_nil _) (by decide) (fun _ => trivial) (mL_low σ62 (jshr r57 7) 12 _ hw) (va_cwS 2 C.2.2.2.2.1 gL_law_L_low rfl rfl rfl (by decide +kernel) ⟨(Nat.le_of_ble_eq_true rfl), (Nat.le_of_ble_eq_true rfl)⟩) rfl rfl (Nat.le_of_ble_eq_true rfl) ⟨(Nat.le_of_ble_eq_true rfl), (Nat.le_of_ble_eq_true rfl)⟩ dL_law_311 (fun r96 σ97 hw => ?_)
              refine xr_iadd C dL_law_314 ?_
              refine xr_callSi C (As := [.ref (ad 0), .ref (ad 40), .int (i32 r59), .int (i32 (1 + r96))]) (rest := []) (xSp_rf _ _) (by decide) (fun _ => trivial) (mL_setsAmount σ97 r59 (1 + r96) _ hw) (va_cwS 4 C.2.2.2.2.1 gL_law_L_setsAmount rfl rfl rfl (by decide +kernel) ⟨(Nat.le_of_ble_eq_true rfl), (Nat.le_of_ble_eq_true rfl)⟩) rfl rfl (Nat.le_of_ble_eq_true rfl) ⟨(Nat.le_of_ble_eq_true rfl), (Nat.le_of_ble_eq_true rfl)⟩ dL_law_315 (fun r98 σ99 hw => ?_)
              refine xr_istore C [(0, .ref b), (1, .ref (ad 0)), (2, .ref (ad 40)), (3, .int (i32 x3)), (4, .int (i32 x4)), (5, .int (i32 r57)), (6, .int (i32 r59)), (7, .int (i32 r98))] dL_law_318 (by decide) rfl ?_
              refine xr_goto C 545 dL_law_320 (by decide) ?_
              refine xr_sub C [0, 1, 2, 3, 4, 7] [(0, .ref b), (1, .ref (ad 0)), (2, .ref (ad 40)), (3, .int (i32 x3)), (4, .int (i32 x4)), (7, .int (i32 r98))] rfl ?_
              exact B545 K122 hK122 x3 x4 r98 σ99 hw
            · have hw := hw.2
              have hbc64 : (3 : Int) ≤ r61 := Int.lt_iff_le_and_ne.mpr ⟨hbc64, fun q => c95 q.symm⟩
              by_cases c100 : r61 = 3
              · have hw := hw.1 c100
                refine xr_tabIn C (off := 166) 3 c100 ⟨by decide, by decide⟩ 323 dL_law_157 (by decide) (by decide) (by decide +kernel) (by decide) ?_
                refine xr_aload_n C 1 dL_law_323 rfl rfl ?_
                refine xr_aload_n C 2 dL_law_324 rfl rfl ?_
                refine xr_iload C 6 dL_law_325 rfl ?_
                refine xr_iload C 5 dL_law_327 rfl ?_
                refine xr_bipush C dL_law_329 (by decide +kernel) ?_
                refine xr_ishr C dL_law_331 ?_
                refine xr_iconst C dL_law_332 ?_
                refine xr_callSi C (As := [.int (i32 (jshr r57 7)), .int (i32 3)]) (rest := [.int (i32 r59), .ref (ad 40), .ref (ad 0)]) (xSp_nil _) (by decide) (fun _ => trivial) (mL_low σ62 (jshr r57 7) 3 _ hw) (va_cwS 2 C.2.2.2.2.1 gL_law_L_low rfl rfl rfl (by decide +kernel) ⟨(Nat.le_of_ble_eq_true rfl), (Nat.le_of_ble_eq_true rfl)⟩) rfl rfl (Nat.le_of_ble_eq_true rfl) ⟨(Nat.le_of_ble_eq_true rfl), (Nat.le_of_ble_eq_true rfl)⟩ dL_law_333 (fun r101 σ102 hw => ?_)
                refine xr_iconst C dL_law_336 ?_
                refine xr_iload C 5 dL_law_337 rfl ?_
                refine xr_bipush C dL_law_339 (by decide +kernel) ?_
                refine xr_ishr C dL_law_341 ?_
                refine xr_bipush C dL_law_342 (by decide +kernel) ?_
                refine xr_callSi C (As := [.int (i32 (jshr r57 9)), .int (i32 9)]) (rest := [.int (i32 1), .int (i32 r101), .int (i32 r59), .ref (ad 40), .ref (ad 0)]) (xSp_nil _) (by decide) (fun _ => trivial) (mL_low σ102 (jshr r57 9) 9 _ hw) (va_cwS 2 C.2.2.2.2.1 gL_law_L_low rfl rfl rfl (by decide +kernel) ⟨(Nat.le_of_ble_eq_true rfl), (Nat.le_of_ble_eq_true rfl)⟩) rfl rfl (Nat.le_of_ble_eq_true rfl) ⟨(Nat.le_of_ble_eq_true rfl), (Nat.le_of_ble_eq_true rfl)⟩ dL_law_344 (fun r103 σ104 hw => ?_)
                refine xr_iadd C dL_law_347 ?_
                refine xr_callSi C (As := [.ref (ad 0), .ref (ad 40), .int (i32 r59), .int (i32 r101), .int (i32 (1 + r103))]) (rest := []) (xSp_rf _ _) (by decide) (fun _ => trivial) (mL_setsKind σ104 r59 r101 (1 + r103) _ hw) (va_cwS 5 C.2.2.2.2.1 gL_law_L_setsKind rfl rfl rfl (by decide +kernel) ⟨(Nat.le_of_ble_eq_true rfl), (Nat.le_of_ble_eq_true rfl)⟩) rfl rfl (Nat.le_of_ble_eq_true rfl) ⟨(Nat.le_of_ble_eq_true rfl), (Nat.le_of_ble_eq_true rfl)⟩ dL_law_348 (fun r105 σ106 hw => ?_)
                refine xr_istore C [(0, .ref b), (1, .ref (ad 0)), (2, .ref (ad 40)), (3, .int (i32 x3)), (4, .int (i32 x4)), (5, .int (i32 r57)), (6, .int (i32 r59)), (7, .int (i32 r105))] dL_law_351 (by decide) rfl ?_
                refine xr_goto C 545 dL_law_353 (by decide) ?_
                refine xr_sub C [0, 1, 2, 3, 4, 7] [(0, .ref b), (1, .ref (ad 0)), (2, .ref (ad 40)), (3, .int (i32 x3)), (4, .int (i32 x4)), (7, .int (i32 r105))] rfl ?_
                exact B545 K122 hK122 x3 x4 r105 σ106 hw
              · have hw := hw.2
                have hbc64 : (4 : Int) ≤ r61 := Int.lt_iff_le_and_ne.mpr ⟨hbc64, fun q => c100 q.symm⟩
                by_cases c107 : r61 = 4
                · have hw := hw.1 c107
                  refine xr_tabIn C (off := 199) 4 c107 ⟨by decide, by decide⟩ 356 dL_law_157 (by decide) (by decide) (by decide +kernel) (by decide) ?_
                  refine xr_aload_n C 1 dL_law_356 rfl rfl ?_
                  refine xr_iload C 6 dL_law_357 rfl ?_
                  refine xr_callVi C (ci := 3) (q0 := 0) (As := [.int (i32 r59)]) (rest := []) (sp_wXA_wX .null ad cI cJ cZ) (by decide) (fun _ => trivial) (mX4_tap σ62 r59 _ hw) (cwV 1 C.2.2.2.2.1 gL_law_X4_tap rfl rfl rfl (by decide +kernel) ⟨(Nat.le_of_ble_eq_true rfl), (Nat.le_of_ble_eq_true rfl)⟩) rfl rfl rfl rfl (Nat.le_of_ble_eq_true rfl) ⟨(Nat.le_of_ble_eq_true rfl), (Nat.le_of_ble_eq_true rfl)⟩ dL_law_359 (fun r108 σ109 hw => ?_)
                  refine xr_aload_n C 2 dL_law_362 rfl rfl ?_
                  refine xr_iload C 6 dL_law_363 rfl ?_
                  refine xr_callSi C (As := [.ref (ad 40), .int (i32 r59)]) (rest := [.int (i32 r108)]) (sp_wXA_wA .null ad cI cJ cZ) (by decide) (fun _ => trivial) (mL_taps σ109 r59 _ hw) (va_cwS 2 C.2.2.2.2.1 gL_law_L_taps rfl rfl rfl (by decide +kernel) ⟨(Nat.le_of_ble_eq_true rfl), (Nat.le_of_ble_eq_true rfl)⟩) rfl rfl (Nat.le_of_ble_eq_true rfl) ⟨(Nat.le_of_ble_eq_true rfl), (Nat.le_of_ble_eq_true rfl)⟩ dL_law_365 (fun r110 σ111 hw => ?_)
                  obtain ⟨g112, hw⟩ := hw
                  obtain ⟨g113, hw⟩ := hw
                  refine xr_icmp_ne C g112 g113 375 dL_law_368 (by decide) (fun c114 => ?_) (fun c114 => ?_)
                  · have hw := hw.1 c114
                    refine xr_iconst C dL_law_375 ?_
                    refine xr_istore C [(0, .ref b), (1, .ref (ad 0)), (2, .ref (ad 40)), (3, .int (i32 x3)), (4, .int (i32 x4)), (5, .int (i32 r57)), (6, .int (i32 r59)), (7, .int (i32 0))] dL_law_376 (by decide) rfl ?_
                    refine xr_goto C 545 dL_law_378 (by decide) ?_
                    refine xr_sub C [0, 1, 2, 3, 4, 7] [(0, .ref b), (1, .ref (ad 0)), (2, .ref (ad 40)), (3, .int (i32 x3)), (4, .int (i32 x4)), (7, .int (i32 0))] rfl ?_
                    exact B545 K122 hK122 x3 x4 0 σ111 hw
                  · have hw := hw.2 c114
                    refine xr_iconst C dL_law_371 ?_
                    refine xr_goto C 376 dL_law_372 (by decide) ?_
                    refine xr_istore C [(0, .ref b), (1, .ref (ad 0)), (2, .ref (ad 40)), (3, .int (i32 x3)), (4, .int (i32 x4)), (5, .int (i32 r57)), (6, .int (i32 r59)), (7, .int (i32 1))] dL_law_376 (by decide) rfl ?_
                    refine xr_goto C 545 dL_law_378 (by decide) ?_
                    refine xr_sub C [0, 1, 2, 3, 4, 7] [(0, .ref b), (1, .ref (ad 0)), (2, .ref (ad 40)), (3, .int (i32 x3)), (4, .int (i32 x4)), (7, .int (i32 1))] rfl ?_
                    exact B545 K122 hK122 x3 x4 1 σ111 hw
                · have hw := hw.2
                  have hbc64 : (5 : Int) ≤ r61 := Int.lt_iff_le_and_ne.mpr ⟨hbc64, fun q => c107 q.symm⟩
                  by_cases c115 : r61 = 5
                  · have hw := hw.1 c115
                    refine xr_tabIn C (off := 224) 5 c115 ⟨by decide, by decide⟩ 381 dL_law_157 (by decide) (by decide) (by decide +kernel) (by decide) ?_
                    refine xr_aload_n C 1 dL_law_381 rfl rfl ?_
                    refine xr_callVi C (ci := 3) (q0 := 0) (As := []) (rest := []) (sp_wXA_wX .null ad cI cJ cZ) (by decide) (fun _ => trivial) (mX4_mark σ62 _ hw) (cwV 0 C.2.2.2.2.1 gL_law_X4_mark rfl rfl rfl (by decide +kernel) ⟨(Nat.le_of_ble_eq_true rfl), (Nat.le_of_ble_eq_true rfl)⟩) rfl rfl rfl rfl (Nat.le_of_ble_eq_true rfl) ⟨(Nat.le_of_ble_eq_true rfl), (Nat.le_of_ble_eq_true rfl)⟩ dL_law_382 (fun r116 σ117 hw => ?_)
                    refine xr_iload_n C 3 dL_law_385 rfl rfl ?_
                    obtain ⟨g118, hw⟩ := hw
                    obtain ⟨g119, hw⟩ := hw
                    refine xr_icmp_ne C g118 g119 393 dL_law_386 (by decide) (fun c120 => ?_) (fun c120 => ?_)
                    · have hw := hw.1 c120
                      refine xr_iconst C dL_law_393 ?_
                      refine xr_sub C [0, 1, 2, 4] [(0, .ref b), (1, .ref (ad 0)), (2, .ref (ad 40)), (4, .int (i32 x4))] rfl ?_
                      exact B394 K122 hK122 x4 0 σ117 hw
                    · have hw := hw.2 c120
                      refine xr_iconst C dL_law_389 ?_
                      refine xr_goto C 394 dL_law_390 (by decide) ?_
                      refine xr_sub C [0, 1, 2, 4] [(0, .ref b), (1, .ref (ad 0)), (2, .ref (ad 40)), (4, .int (i32 x4))] rfl ?_
                      exact B394 K122 hK122 x4 1 σ117 hw
                  · have hw := hw.2
                    have hbc64 : (6 : Int) ≤ r61 := Int.lt_iff_le_and_ne.mpr ⟨hbc64, fun q => c115 q.symm⟩
                    by_cases c121 : r61 = 6
                    · have hw := hw.1 c121
                      refine xr_tabIn C (off := 247) 6 c121 ⟨by decide, by decide⟩ 404 dL_law_157 (by decide) (by decide) (by decide +kernel) (by decide) ?_
                      refine xr_sub C [0, 1, 2, 3, 4] [(0, .ref b), (1, .ref (ad 0)), (2, .ref (ad 40)), (3, .int (i32 x3)), (4, .int (i32 x4))] rfl ?_
                      exact B404 K122 hK122 x3 x4 σ62 hw
                    · have hw := hw.2
                      have hbc64 : (7 : Int) ≤ r61 := Int.lt_iff_le_and_ne.mpr ⟨hbc64, fun q => c121 q.symm⟩
                      by_cases c122 : r61 = 7
                      · have hw := hw.1 c122
                        refine xr_tabIn C (off := 247) 7 c122 ⟨by decide, by decide⟩ 404 dL_law_157 (by decide) (by decide) (by decide +kernel) (by decide) ?_
                        refine xr_sub C [0, 1, 2, 3, 4] [(0, .ref b), (1, .ref (ad 0)), (2, .ref (ad 40)), (3, .int (i32 x3)), (4, .int (i32 x4))] rfl ?_
                        exact B404 K122 hK122 x3 x4 σ62 hw
                      · have hw := hw.2
                        have hbc64 : (8 : Int) ≤ r61 := Int.lt_iff_le_and_ne.mpr ⟨hbc64, fun q => c122 q.symm⟩
                        by_cases c123 : r61 = 8
                        · have hw := hw.1 c123
                          refine xr_tabIn C (off := 298) 8 c123 ⟨by decide, by decide⟩ 455 dL_law_157 (by decide) (by decide) (by decide +kernel) (by decide) ?_
                          refine xr_sub C [0, 1, 2, 3, 4, 5] [(0, .ref b), (1, .ref (ad 0)), (2, .ref (ad 40)), (3, .int (i32 x3)), (4, .int (i32 x4)), (5, .int (i32 r57))] rfl ?_
                          exact B455 K122 hK122 x3 x4 r57 σ62 hw
                        · have hw := hw.2
                          have hbc64 : (9 : Int) ≤ r61 := Int.lt_iff_le_and_ne.mpr ⟨hbc64, fun q => c123 q.symm⟩
                          by_cases c124 : r61 = 9
                          · have hw := hw c124
                            refine xr_tabIn C (off := 298) 9 c124 ⟨by decide, by decide⟩ 455 dL_law_157 (by decide) (by decide) (by decide +kernel) (by decide) ?_
                            refine xr_sub C [0, 1, 2, 3, 4, 5] [(0, .ref b), (1, .ref (ad 0)), (2, .ref (ad 40)), (3, .int (i32 x3)), (4, .int (i32 x4)), (5, .int (i32 r57))] rfl ?_
                            exact B455 K122 hK122 x3 x4 r57 σ62 hw
                          · exact absurd (Or.inr (Int.lt_iff_le_and_ne.mpr ⟨hbc64, fun q => c124 q.symm⟩)) c64
  unfold vL_law at hw
  refine xr_aload_n C 2 dL_law_13 rfl rfl ?_
  refine xr_callSv C (As := [.ref (ad 40)]) (rest := []) (sp_wXA_wA .null ad cI cJ cZ) (by decide) (fun _ => trivial) (mL_begins σ _ hw) (va_cwS 1 C.2.2.2.2.1 gL_law_L_begins rfl rfl rfl (by decide +kernel) ⟨(Nat.le_of_ble_eq_true rfl), (Nat.le_of_ble_eq_true rfl)⟩) rfl rfl (Nat.le_of_ble_eq_true rfl) ⟨(Nat.le_of_ble_eq_true rfl), (Nat.le_of_ble_eq_true rfl)⟩ dL_law_14 (fun σ126 hw => ?_)
  refine xr_aload_n C 1 dL_law_17 rfl rfl ?_
  refine xr_callVi C (ci := 3) (q0 := 0) (As := []) (rest := []) (sp_wXA_wX .null ad cI cJ cZ) (by decide) (fun _ => trivial) (mX4_await σ126 _ hw) (cwV 0 C.2.2.2.2.1 gL_law_X4_await rfl rfl rfl (by decide +kernel) ⟨(Nat.le_of_ble_eq_true rfl), (Nat.le_of_ble_eq_true rfl)⟩) rfl rfl rfl rfl (Nat.le_of_ble_eq_true rfl) ⟨(Nat.le_of_ble_eq_true rfl), (Nat.le_of_ble_eq_true rfl)⟩ dL_law_18 (fun r127 σ128 hw => ?_)
  refine xr_bipush C dL_law_21 (by decide +kernel) ?_
  obtain ⟨g129, hw⟩ := hw
  refine xr_icmp_ne C g129 ⟨by decide, by decide⟩ 115 dL_law_23 (by decide) (fun c130 => ?_) (fun c130 => ?_)
  · have hw := hw.1 c130
    refine xr_iconst C dL_law_115 ?_
    exact absurd (hQ _ _ hw) (by decide)
  · have hw := hw.2 c130
    refine xr_aload_n C 1 dL_law_26 rfl rfl ?_
    refine xr_iconst C dL_law_27 ?_
    refine xr_callVi C (ci := 3) (q0 := 0) (As := [.int (i32 3)]) (rest := []) (sp_wXA_wX .null ad cI cJ cZ) (by decide) (fun _ => trivial) (mX4_count σ128 3 _ hw) (cwV 1 C.2.2.2.2.1 gL_law_X4_count rfl rfl rfl (by decide +kernel) ⟨(Nat.le_of_ble_eq_true rfl), (Nat.le_of_ble_eq_true rfl)⟩) rfl rfl rfl rfl (Nat.le_of_ble_eq_true rfl) ⟨(Nat.le_of_ble_eq_true rfl), (Nat.le_of_ble_eq_true rfl)⟩ dL_law_28 (fun r131 σ132 hw => ?_)
    refine xr_iconst C dL_law_31 ?_
    obtain ⟨g133, hw⟩ := hw
    refine xr_icmp_ne C g133 ⟨by decide, by decide⟩ 115 dL_law_32 (by decide) (fun c134 => ?_) (fun c134 => ?_)
    · have hw := hw.1 c134
      refine xr_iconst C dL_law_115 ?_
      exact absurd (hQ _ _ hw) (by decide)
    · have hw := hw.2 c134
      refine xr_aload_n C 1 dL_law_35 rfl rfl ?_
      refine xr_callVi C (ci := 3) (q0 := 0) (As := []) (rest := []) (sp_wXA_wX .null ad cI cJ cZ) (by decide) (fun _ => trivial) (mX4_undo σ132 _ hw) (cwV 0 C.2.2.2.2.1 gL_law_X4_undo rfl rfl rfl (by decide +kernel) ⟨(Nat.le_of_ble_eq_true rfl), (Nat.le_of_ble_eq_true rfl)⟩) rfl rfl rfl rfl (Nat.le_of_ble_eq_true rfl) ⟨(Nat.le_of_ble_eq_true rfl), (Nat.le_of_ble_eq_true rfl)⟩ dL_law_36 (fun r135 σ136 hw => ?_)
      refine xr_bipush C dL_law_39 (by decide +kernel) ?_
      obtain ⟨g137, hw⟩ := hw
      refine xr_icmp_ne C g137 ⟨by decide, by decide⟩ 115 dL_law_41 (by decide) (fun c138 => ?_) (fun c138 => ?_)
      · have hw := hw.1 c138
        refine xr_iconst C dL_law_115 ?_
        exact absurd (hQ _ _ hw) (by decide)
      · have hw := hw.2 c138
        refine xr_aload_n C 1 dL_law_44 rfl rfl ?_
        refine xr_iconst C dL_law_45 ?_
        refine xr_callVi C (ci := 3) (q0 := 0) (As := [.int (i32 3)]) (rest := []) (sp_wXA_wX .null ad cI cJ cZ) (by decide) (fun _ => trivial) (mX4_turn σ136 3 _ hw) (cwV 1 C.2.2.2.2.1 gL_law_X4_turn rfl rfl rfl (by decide +kernel) ⟨(Nat.le_of_ble_eq_true rfl), (Nat.le_of_ble_eq_true rfl)⟩) rfl rfl rfl rfl (Nat.le_of_ble_eq_true rfl) ⟨(Nat.le_of_ble_eq_true rfl), (Nat.le_of_ble_eq_true rfl)⟩ dL_law_46 (fun r139 σ140 hw => ?_)
        refine xr_bipush C dL_law_49 (by decide +kernel) ?_
        obtain ⟨g141, hw⟩ := hw
        refine xr_icmp_ne C g141 ⟨by decide, by decide⟩ 115 dL_law_51 (by decide) (fun c142 => ?_) (fun c142 => ?_)
        · have hw := hw.1 c142
          refine xr_iconst C dL_law_115 ?_
          exact absurd (hQ _ _ hw) (by decide)
        · have hw := hw.2 c142
          refine xr_aload_n C 1 dL_law_54 rfl rfl ?_
          refine xr_iconst C dL_law_55 ?_
          refine xr_callVi C (ci := 3) (q0 := 0) (As := [.int (i32 (-1))]) (rest := []) (sp_wXA_wX .null ad cI cJ cZ) (by decide) (fun _ => trivial) (mX4_tap σ140 (-1) _ hw) (cwV 1 C.2.2.2.2.1 gL_law_X4_tap rfl rfl rfl (by decide +kernel) ⟨(Nat.le_of_ble_eq_true rfl), (Nat.le_of_ble_eq_true rfl)⟩) rfl rfl rfl rfl (Nat.le_of_ble_eq_true rfl) ⟨(Nat.le_of_ble_eq_true rfl), (Nat.le_of_ble_eq_true rfl)⟩ dL_law_56 (fun r143 σ144 hw => ?_)
          refine xr_bipush C dL_law_59 (by decide +kernel) ?_
          obtain ⟨g145, hw⟩ := hw
          refine xr_icmp_ne C g145 ⟨by decide, by decide⟩ 115 dL_law_61 (by decide) (fun c146 => ?_) (fun c146 => ?_)
          · have hw := hw.1 c146
            refine xr_iconst C dL_law_115 ?_
            exact absurd (hQ _ _ hw) (by decide)
          · have hw := hw.2 c146
            refine xr_aload_n C 1 dL_law_64 rfl rfl ?_
            refine xr_iconst C dL_law_65 ?_
            refine xr_callVi C (ci := 3) (q0 := 0) (As := [.int (i32 0)]) (rest := []) (sp_wXA_wX .null ad cI cJ cZ) (by decide) (fun _ => trivial) (mX4_pass σ144 0 _ hw) (cwV 1 C.2.2.2.2.1 gL_law_X4_pass rfl rfl rfl (by decide +kernel) ⟨(Nat.le_of_ble_eq_true rfl), (Nat.le_of_ble_eq_true rfl)⟩) rfl rfl rfl rfl (Nat.le_of_ble_eq_true rfl) ⟨(Nat.le_of_ble_eq_true rfl), (Nat.le_of_ble_eq_true rfl)⟩ dL_law_66 (fun r147 σ148 hw => ?_)
            refine xr_bipush C dL_law_69 (by decide +kernel) ?_
            obtain ⟨g149, hw⟩ := hw
            refine xr_icmp_ne C g149 ⟨by decide, by decide⟩ 115 dL_law_71 (by decide) (fun c150 => ?_) (fun c150 => ?_)
            · have hw := hw.1 c150
              refine xr_iconst C dL_law_115 ?_
              exact absurd (hQ _ _ hw) (by decide)
            · have hw := hw.2 c150
              refine xr_aload_n C 1 dL_law_74 rfl rfl ?_
              refine xr_iconst C dL_law_75 ?_
              refine xr_iconst C dL_law_76 ?_
              refine xr_callVi C (ci := 3) (q0 := 0) (As := [.int (i32 0), .int (i32 3)]) (rest := []) (sp_wXA_wX .null ad cI cJ cZ) (by decide) (fun _ => trivial) (mX4_fix σ148 0 3 _ hw) (cwV 2 C.2.2.2.2.1 gL_law_X4_fix rfl rfl rfl (by decide +kernel) ⟨(Nat.le_of_ble_eq_true rfl), (Nat.le_of_ble_eq_true rfl)⟩) rfl rfl rfl rfl (Nat.le_of_ble_eq_true rfl) ⟨(Nat.le_of_ble_eq_true rfl), (Nat.le_of_ble_eq_true rfl)⟩ dL_law_77 (fun r151 σ152 hw => ?_)
              refine xr_bipush C dL_law_80 (by decide +kernel) ?_
              obtain ⟨g153, hw⟩ := hw
              refine xr_icmp_ne C g153 ⟨by decide, by decide⟩ 115 dL_law_82 (by decide) (fun c154 => ?_) (fun c154 => ?_)
              · have hw := hw.1 c154
                refine xr_iconst C dL_law_115 ?_
                exact absurd (hQ _ _ hw) (by decide)
              · have hw := hw.2 c154
                refine xr_aload_n C 1 dL_law_85 rfl rfl ?_
                refine xr_iconst C dL_law_86 ?_
                refine xr_iconst C dL_law_87 ?_
                refine xr_callVi C (ci := 3) (q0 := 0) (As := [.int (i32 (-1)), .int (i32 0)]) (rest := []) (sp_wXA_wX .null ad cI cJ cZ) (by decide) (fun _ => trivial) (mX4_event σ152 (-1) 0 _ hw) (cwV 2 C.2.2.2.2.1 gL_law_X4_event rfl rfl rfl (by decide +kernel) ⟨(Nat.le_of_ble_eq_true rfl), (Nat.le_of_ble_eq_true rfl)⟩) rfl rfl rfl rfl (Nat.le_of_ble_eq_true rfl) ⟨(Nat.le_of_ble_eq_true rfl), (Nat.le_of_ble_eq_true rfl)⟩ dL_law_88 (fun r155 σ156 hw => ?_)
                refine xr_bipush C dL_law_91 (by decide +kernel) ?_
                obtain ⟨g157, hw⟩ := hw
                refine xr_icmp_ne C g157 ⟨by decide, by decide⟩ 115 dL_law_93 (by decide) (fun c158 => ?_) (fun c158 => ?_)
                · have hw := hw.1 c158
                  refine xr_iconst C dL_law_115 ?_
                  exact absurd (hQ _ _ hw) (by decide)
                · have hw := hw.2 c158
                  refine xr_aload_n C 1 dL_law_96 rfl rfl ?_
                  refine xr_iconst C dL_law_97 ?_
                  refine xr_iconst C dL_law_98 ?_
                  refine xr_callVi C (ci := 3) (q0 := 0) (As := [.int (i32 0), .int (i32 3)]) (rest := []) (sp_wXA_wX .null ad cI cJ cZ) (by decide) (fun _ => trivial) (mX4_event σ156 0 3 _ hw) (cwV 2 C.2.2.2.2.1 gL_law_X4_event rfl rfl rfl (by decide +kernel) ⟨(Nat.le_of_ble_eq_true rfl), (Nat.le_of_ble_eq_true rfl)⟩) rfl rfl rfl rfl (Nat.le_of_ble_eq_true rfl) ⟨(Nat.le_of_ble_eq_true rfl), (Nat.le_of_ble_eq_true rfl)⟩ dL_law_99 (fun r159 σ160 hw => ?_)
                  refine xr_bipush C dL_law_102 (by decide +kernel) ?_
                  obtain ⟨g161, hw⟩ := hw
                  refine xr_icmp_ne C g161 ⟨by decide, by decide⟩ 115 dL_law_104 (by decide) (fun c162 => ?_) (fun c162 => ?_)
                  · have hw := hw.1 c162
                    refine xr_iconst C dL_law_115 ?_
                    exact absurd (hQ _ _ hw) (by decide)
                  · have hw := hw.2 c162
                    refine xr_aload_n C 1 dL_law_107 rfl rfl ?_
                    refine xr_aload_n C 2 dL_law_108 rfl rfl ?_
                    refine xr_callSi C (As := [.ref (ad 0), .ref (ad 40)]) (rest := []) (xSp_rf _ _) (by decide) (fun _ => trivial) (mL_isTold σ160 _ hw) (va_cwS 2 C.2.2.2.2.1 gL_law_L_isTold rfl rfl rfl (by decide +kernel) ⟨(Nat.le_of_ble_eq_true rfl), (Nat.le_of_ble_eq_true rfl)⟩) rfl rfl (Nat.le_of_ble_eq_true rfl) ⟨(Nat.le_of_ble_eq_true rfl), (Nat.le_of_ble_eq_true rfl)⟩ dL_law_109 (fun r163 σ164 hw => ?_)
                    obtain ⟨g165, hw⟩ := hw
                    refine xr_if_ne C g165 117 dL_law_112 (by decide) (fun c166 => ?_) (fun c166 => ?_)
                    · have hw := hw.1 c166
                      refine xr_iconst C dL_law_117 ?_
                      refine xr_istore_n C [(0, .ref b), (1, .ref (ad 0)), (2, .ref (ad 40)), (3, .int (i32 (-1)))] dL_law_118 rfl (by decide) rfl ?_
                      refine xr_iconst C dL_law_119 ?_
                      refine xr_istore C [(0, .ref b), (1, .ref (ad 0)), (2, .ref (ad 40)), (3, .int (i32 (-1))), (4, .int (i32 0))] dL_law_120 (by decide) rfl ?_
                      exact L122 ((-1), 0, σ164) hw
                    · have hw := hw.2 c166
                      refine xr_iconst C dL_law_115 ?_
                      exact absurd (hQ _ _ hw) (by decide)
