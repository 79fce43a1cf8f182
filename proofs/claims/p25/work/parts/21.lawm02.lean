abbrev rmL_isTold : Room := { frames := 3, cells := 0, slots := 0, locals := 129 }
set_option maxHeartbeats 8000000 in
set_option maxRecDepth 100000 in
theorem mL_isTold {l : Launch} {D : va_G} {pv : Value} {ad : Nat → Nat} {cI cJ cZ : ClassId} (σ : xS) (Q : Int → xS → Prop) (hw : vL_isTold σ Q) : xMi False l yL_isTold wsL_isTold rmL_isTold D (xtys cI cJ cZ) (wXA pv ad cI cJ cZ) [0, 1, 2, 3, 4, 5, 6, 7, 8, 40] σ [.ref (ad 0), .ref (ad 40)] Q := by
  refine xenter (F := [0, 1, 2, 3, 4, 5, 6, 7, 8, 40]) (Qc := fun sz => xQi D (wXA pv ad cI cJ cZ) [0, 1, 2, 3, 4, 5, 6, 7, 8, 40] σ sz Q) (own := RL) (cc := cL_isTold) (maxL := 6) (ret := some .boolean) (by decide) rfl rfl (Nat.le_of_ble_eq_true rfl) ?_
  intro p e s m args below meth c hargs C hr hnm
  have B279 : ∀ (K178 : Int × Int × Int × xS → Prop) (hK178 : ∀ a, K178 a → xX p l e rmL_isTold s m args below meth c D vwCl (va_A ((wXA pv ad cI cJ cZ) σ) s.heap.size) (wXA pv ad cI cJ cZ) [0, 1, 2, 3, 4, 5, 6, 7, 8, 40] σ 0 0 (MQ below (xQi D (wXA pv ad cI cJ cZ) [0, 1, 2, 3, 4, 5, 6, 7, 8, 40] σ s.heap.size Q) args s 0 0 (va_A ((wXA pv ad cI cJ cZ) σ) s.heap.size)) 6 (a.2.2.2) 178 [(0, .ref (ad 0)), (1, .ref (ad 40)), (2, .int (i32 (a.1))), (3, .int (i32 (a.2.1))), (4, .int (i32 (a.2.2.1)))] []) (x2 x3 x4 y0 y1 : Int) (σ0 : xS), vL_isTold_279 K178 Q x2 x3 x4 y0 y1 σ0 → xX p l e rmL_isTold s m args below meth c D vwCl (va_A ((wXA pv ad cI cJ cZ) σ) s.heap.size) (wXA pv ad cI cJ cZ) [0, 1, 2, 3, 4, 5, 6, 7, 8, 40] σ 0 0 (MQ below (xQi D (wXA pv ad cI cJ cZ) [0, 1, 2, 3, 4, 5, 6, 7, 8, 40] σ s.heap.size Q) args s 0 0 (va_A ((wXA pv ad cI cJ cZ) σ) s.heap.size)) 6 σ0 279 [(0, .ref (ad 0)), (1, .ref (ad 40)), (2, .int (i32 x2)), (3, .int (i32 x3)), (4, .int (i32 x4))] [.int (i32 y1), .int (i32 y0)] := by
    intro K178 hK178 x2 x3 x4 y0 y1 σ0 hw
    unfold vL_isTold_279 at hw
    obtain ⟨g1, hw⟩ := hw
    obtain ⟨g2, hw⟩ := hw
    refine xr_icmp_eq C g1 g2 284 dL_isTold_279 (by decide) (fun c3 => ?_) (fun c3 => ?_)
    · have hw := hw.1 c3
      refine xr_iinc C 4 [(0, .ref (ad 0)), (1, .ref (ad 40)), (2, .int (i32 x2)), (3, .int (i32 x3)), (4, .int (i32 (x4 + 1)))] dL_isTold_284 rfl (by decide) rfl ?_
      refine xr_goto C 178 dL_isTold_287 (by decide) ?_
      exact hK178 (x2, x3, (x4 + 1), σ0) hw
    · have hw := hw.2 c3
      refine xr_iconst C dL_isTold_282 ?_
      exact xr_zret C hr (Or.inl rfl) hw dL_isTold_283
  have B255 : ∀ (K178 : Int × Int × Int × xS → Prop) (hK178 : ∀ a, K178 a → xX p l e rmL_isTold s m args below meth c D vwCl (va_A ((wXA pv ad cI cJ cZ) σ) s.heap.size) (wXA pv ad cI cJ cZ) [0, 1, 2, 3, 4, 5, 6, 7, 8, 40] σ 0 0 (MQ below (xQi D (wXA pv ad cI cJ cZ) [0, 1, 2, 3, 4, 5, 6, 7, 8, 40] σ s.heap.size Q) args s 0 0 (va_A ((wXA pv ad cI cJ cZ) σ) s.heap.size)) 6 (a.2.2.2) 178 [(0, .ref (ad 0)), (1, .ref (ad 40)), (2, .int (i32 (a.1))), (3, .int (i32 (a.2.1))), (4, .int (i32 (a.2.2.1)))] []) (x2 x3 x4 x5 y0 y1 : Int) (σ0 : xS), vL_isTold_255 K178 Q x2 x3 x4 x5 y0 y1 σ0 → xX p l e rmL_isTold s m args below meth c D vwCl (va_A ((wXA pv ad cI cJ cZ) σ) s.heap.size) (wXA pv ad cI cJ cZ) [0, 1, 2, 3, 4, 5, 6, 7, 8, 40] σ 0 0 (MQ below (xQi D (wXA pv ad cI cJ cZ) [0, 1, 2, 3, 4, 5, 6, 7, 8, 40] σ s.heap.size Q) args s 0 0 (va_A ((wXA pv ad cI cJ cZ) σ) s.heap.size)) 6 σ0 255 [(0, .ref (ad 0)), (1, .ref (ad 40)), (2, .int (i32 x2)), (3, .int (i32 x3)), (4, .int (i32 x4)), (5, .int (i32 x5))] [.int (i32 y1), .int (i32 y0)] := by
    intro K178 hK178 x2 x3 x4 x5 y0 y1 σ0 hw
    unfold vL_isTold_255 at hw
    obtain ⟨g4, hw⟩ := hw
    obtain ⟨g5, hw⟩ := hw
    refine xr_icmp_ne C g4 g5 282 dL_isTold_255 (by decide) (fun c6 => ?_) (fun c6 => ?_)
    · have hw := hw.1 c6
      refine xr_iconst C dL_isTold_282 ?_
      exact xr_zret C hr (Or.inl rfl) hw dL_isTold_283
    · have hw := hw.2 c6
      refine xr_aload_n C 0 dL_isTold_258 rfl rfl ?_
      refine xr_iload C 4 dL_isTold_259 rfl ?_
      refine xr_iconst C dL_isTold_261 ?_
      refine xr_callVi C (ci := 3) (q0 := 0) (As := [.int (i32 x4), .int (i32 2)]) (rest := []) (sp_wXA_wX pv ad cI cJ cZ) (by decide) (fun h => h) (mX4_event σ0 x4 2 _ hw) (cwV 2 C.2.2.2.2.1 gL_isTold_X4_event rfl rfl rfl (by decide +kernel) ⟨by decide, by decide⟩) rfl rfl rfl rfl (Nat.le_of_ble_eq_true rfl) ⟨by decide, by decide⟩ dL_isTold_262 (fun r7 σ8 hw => ?_)
      refine xr_iload C 5 dL_isTold_265 rfl ?_
      obtain ⟨g9, hw⟩ := hw
      refine xr_if_ge C g9 274 dL_isTold_267 (by decide) (fun c10 => ?_) (fun c10 => ?_)
      · have hw := hw.1 c10
        refine xr_iload C 5 dL_isTold_274 rfl ?_
        refine xr_bipush C dL_isTold_276 (by decide +kernel) ?_
        refine xr_irem C ⟨⟨by decide, by decide⟩, by decide⟩ dL_isTold_278 ?_
        refine xr_sub C [0, 1, 2, 3, 4] [(0, .ref (ad 0)), (1, .ref (ad 40)), (2, .int (i32 x2)), (3, .int (i32 x3)), (4, .int (i32 x4))] rfl ?_
        exact B279 K178 hK178 x2 x3 x4 r7 (jrem x5 10) σ8 hw
      · have hw := hw.2 c10
        refine xr_iconst C dL_isTold_270 ?_
        refine xr_goto C 279 dL_isTold_271 (by decide) ?_
        refine xr_sub C [0, 1, 2, 3, 4] [(0, .ref (ad 0)), (1, .ref (ad 40)), (2, .int (i32 x2)), (3, .int (i32 x3)), (4, .int (i32 x4))] rfl ?_
        exact B279 K178 hK178 x2 x3 x4 r7 (-1) σ8 hw
  have B228 : ∀ (K178 : Int × Int × Int × xS → Prop) (hK178 : ∀ a, K178 a → xX p l e rmL_isTold s m args below meth c D vwCl (va_A ((wXA pv ad cI cJ cZ) σ) s.heap.size) (wXA pv ad cI cJ cZ) [0, 1, 2, 3, 4, 5, 6, 7, 8, 40] σ 0 0 (MQ below (xQi D (wXA pv ad cI cJ cZ) [0, 1, 2, 3, 4, 5, 6, 7, 8, 40] σ s.heap.size Q) args s 0 0 (va_A ((wXA pv ad cI cJ cZ) σ) s.heap.size)) 6 (a.2.2.2) 178 [(0, .ref (ad 0)), (1, .ref (ad 40)), (2, .int (i32 (a.1))), (3, .int (i32 (a.2.1))), (4, .int (i32 (a.2.2.1)))] []) (x2 x3 x4 x5 y0 y1 : Int) (σ0 : xS), vL_isTold_228 K178 Q x2 x3 x4 x5 y0 y1 σ0 → xX p l e rmL_isTold s m args below meth c D vwCl (va_A ((wXA pv ad cI cJ cZ) σ) s.heap.size) (wXA pv ad cI cJ cZ) [0, 1, 2, 3, 4, 5, 6, 7, 8, 40] σ 0 0 (MQ below (xQi D (wXA pv ad cI cJ cZ) [0, 1, 2, 3, 4, 5, 6, 7, 8, 40] σ s.heap.size Q) args s 0 0 (va_A ((wXA pv ad cI cJ cZ) σ) s.heap.size)) 6 σ0 228 [(0, .ref (ad 0)), (1, .ref (ad 40)), (2, .int (i32 x2)), (3, .int (i32 x3)), (4, .int (i32 x4)), (5, .int (i32 x5))] [.int (i32 y1), .int (i32 y0)] := by
    intro K178 hK178 x2 x3 x4 x5 y0 y1 σ0 hw
    unfold vL_isTold_228 at hw
    obtain ⟨g11, hw⟩ := hw
    obtain ⟨g12, hw⟩ := hw
    refine xr_icmp_ne C g11 g12 282 dL_isTold_228 (by decide) (fun c13 => ?_) (fun c13 => ?_)
    · have hw := hw.1 c13
      refine xr_iconst C dL_isTold_282 ?_
      exact xr_zret C hr (Or.inl rfl) hw dL_isTold_283
    · have hw := hw.2 c13
      refine xr_aload_n C 0 dL_isTold_231 rfl rfl ?_
      refine xr_iload C 4 dL_isTold_232 rfl ?_
      refine xr_iconst C dL_isTold_234 ?_
      refine xr_callVi C (ci := 3) (q0 := 0) (As := [.int (i32 x4), .int (i32 1)]) (rest := []) (sp_wXA_wX pv ad cI cJ cZ) (by decide) (fun h => h) (mX4_event σ0 x4 1 _ hw) (cwV 2 C.2.2.2.2.1 gL_isTold_X4_event rfl rfl rfl (by decide +kernel) ⟨by decide, by decide⟩) rfl rfl rfl rfl (Nat.le_of_ble_eq_true rfl) ⟨by decide, by decide⟩ dL_isTold_235 (fun r14 σ15 hw => ?_)
      refine xr_iload C 5 dL_isTold_238 rfl ?_
      obtain ⟨g16, hw⟩ := hw
      refine xr_if_ge C g16 247 dL_isTold_240 (by decide) (fun c17 => ?_) (fun c17 => ?_)
      · have hw := hw.1 c17
        refine xr_iload C 5 dL_isTold_247 rfl ?_
        refine xr_bipush C dL_isTold_249 (by decide +kernel) ?_
        refine xr_idiv C ⟨⟨by decide, by decide⟩, by decide⟩ dL_isTold_251 ?_
        refine xr_bipush C dL_isTold_252 (by decide +kernel) ?_
        refine xr_irem C ⟨⟨by decide, by decide⟩, by decide⟩ dL_isTold_254 ?_
        exact B255 K178 hK178 x2 x3 x4 x5 r14 (jrem (jdiv x5 10) 10) σ15 hw
      · have hw := hw.2 c17
        refine xr_iconst C dL_isTold_243 ?_
        refine xr_goto C 255 dL_isTold_244 (by decide) ?_
        exact B255 K178 hK178 x2 x3 x4 x5 r14 (-1) σ15 hw
  have B205 : ∀ (K178 : Int × Int × Int × xS → Prop) (hK178 : ∀ a, K178 a → xX p l e rmL_isTold s m args below meth c D vwCl (va_A ((wXA pv ad cI cJ cZ) σ) s.heap.size) (wXA pv ad cI cJ cZ) [0, 1, 2, 3, 4, 5, 6, 7, 8, 40] σ 0 0 (MQ below (xQi D (wXA pv ad cI cJ cZ) [0, 1, 2, 3, 4, 5, 6, 7, 8, 40] σ s.heap.size Q) args s 0 0 (va_A ((wXA pv ad cI cJ cZ) σ) s.heap.size)) 6 (a.2.2.2) 178 [(0, .ref (ad 0)), (1, .ref (ad 40)), (2, .int (i32 (a.1))), (3, .int (i32 (a.2.1))), (4, .int (i32 (a.2.2.1)))] []) (x2 x4 x5 y0 y1 : Int) (σ0 : xS), vL_isTold_205 K178 Q x2 x4 x5 y0 y1 σ0 → xX p l e rmL_isTold s m args below meth c D vwCl (va_A ((wXA pv ad cI cJ cZ) σ) s.heap.size) (wXA pv ad cI cJ cZ) [0, 1, 2, 3, 4, 5, 6, 7, 8, 40] σ 0 0 (MQ below (xQi D (wXA pv ad cI cJ cZ) [0, 1, 2, 3, 4, 5, 6, 7, 8, 40] σ s.heap.size Q) args s 0 0 (va_A ((wXA pv ad cI cJ cZ) σ) s.heap.size)) 6 σ0 205 [(0, .ref (ad 0)), (1, .ref (ad 40)), (2, .int (i32 x2)), (4, .int (i32 x4)), (5, .int (i32 x5))] [.int (i32 y1), .int (i32 y0)] := by
    intro K178 hK178 x2 x4 x5 y0 y1 σ0 hw
    unfold vL_isTold_205 at hw
    refine xr_iadd C dL_isTold_205 ?_
    refine xr_istore_n C [(0, .ref (ad 0)), (1, .ref (ad 40)), (2, .int (i32 x2)), (3, .int (i32 (y0 + y1))), (4, .int (i32 x4)), (5, .int (i32 x5))] dL_isTold_206 rfl (by decide) rfl ?_
    refine xr_aload_n C 0 dL_isTold_207 rfl rfl ?_
    refine xr_iload C 4 dL_isTold_208 rfl ?_
    refine xr_iconst C dL_isTold_210 ?_
    refine xr_callVi C (ci := 3) (q0 := 0) (As := [.int (i32 x4), .int (i32 0)]) (rest := []) (sp_wXA_wX pv ad cI cJ cZ) (by decide) (fun h => h) (mX4_event σ0 x4 0 _ hw) (cwV 2 C.2.2.2.2.1 gL_isTold_X4_event rfl rfl rfl (by decide +kernel) ⟨by decide, by decide⟩) rfl rfl rfl rfl (Nat.le_of_ble_eq_true rfl) ⟨by decide, by decide⟩ dL_isTold_211 (fun r18 σ19 hw => ?_)
    refine xr_iload C 5 dL_isTold_214 rfl ?_
    obtain ⟨g20, hw⟩ := hw
    refine xr_if_ge C g20 223 dL_isTold_216 (by decide) (fun c21 => ?_) (fun c21 => ?_)
    · have hw := hw.1 c21
      refine xr_iload C 5 dL_isTold_223 rfl ?_
      refine xr_bipush C dL_isTold_225 (by decide +kernel) ?_
      refine xr_idiv C ⟨⟨by decide, by decide⟩, by decide⟩ dL_isTold_227 ?_
      exact B228 K178 hK178 x2 (y0 + y1) x4 x5 r18 (jdiv x5 100) σ19 hw
    · have hw := hw.2 c21
      refine xr_iconst C dL_isTold_219 ?_
      refine xr_goto C 228 dL_isTold_220 (by decide) ?_
      exact B228 K178 hK178 x2 (y0 + y1) x4 x5 r18 (-1) σ19 hw
  have L178 : ∀ a, mu (vL_isTold_178  Q) a → xX p l e rmL_isTold s m args below meth c D vwCl (va_A ((wXA pv ad cI cJ cZ) σ) s.heap.size) (wXA pv ad cI cJ cZ) [0, 1, 2, 3, 4, 5, 6, 7, 8, 40] σ 0 0 (MQ below (xQi D (wXA pv ad cI cJ cZ) [0, 1, 2, 3, 4, 5, 6, 7, 8, 40] σ s.heap.size Q) args s 0 0 (va_A ((wXA pv ad cI cJ cZ) σ) s.heap.size)) 6 (a.2.2.2) 178 [(0, .ref (ad 0)), (1, .ref (ad 40)), (2, .int (i32 (a.1))), (3, .int (i32 (a.2.1))), (4, .int (i32 (a.2.2.1)))] [] := by
    refine mu_ind (fun K178 hK178 a hw => ?_)
    obtain ⟨x2, x3, x4, σ0⟩ := a
    show xX p l e rmL_isTold s m args below meth c D vwCl (va_A ((wXA pv ad cI cJ cZ) σ) s.heap.size) (wXA pv ad cI cJ cZ) [0, 1, 2, 3, 4, 5, 6, 7, 8, 40] σ 0 0 (MQ below (xQi D (wXA pv ad cI cJ cZ) [0, 1, 2, 3, 4, 5, 6, 7, 8, 40] σ s.heap.size Q) args s 0 0 (va_A ((wXA pv ad cI cJ cZ) σ) s.heap.size)) 6 σ0 178 [(0, .ref (ad 0)), (1, .ref (ad 40)), (2, .int (i32 x2)), (3, .int (i32 x3)), (4, .int (i32 x4))] []
    unfold vL_isTold_178 at hw
    refine xr_iload C 4 dL_isTold_178 rfl ?_
    refine xr_bipush C dL_isTold_180 (by decide +kernel) ?_
    obtain ⟨g22, hw⟩ := hw
    refine xr_icmp_ge C g22 ⟨by decide, by decide⟩ 290 dL_isTold_182 (by decide) (fun c23 => ?_) (fun c23 => ?_)
    · have hw := hw.1 c23
      refine xr_aload_n C 0 dL_isTold_290 rfl rfl ?_
      refine xr_iconst C dL_isTold_291 ?_
      refine xr_callVi C (ci := 3) (q0 := 0) (As := [.int (i32 0)]) (rest := []) (sp_wXA_wX pv ad cI cJ cZ) (by decide) (fun h => h) (mX4_count σ0 0 _ hw) (cwV 1 C.2.2.2.2.1 gL_isTold_X4_count rfl rfl rfl (by decide +kernel) ⟨by decide, by decide⟩) rfl rfl rfl rfl (Nat.le_of_ble_eq_true rfl) ⟨by decide, by decide⟩ dL_isTold_292 (fun r24 σ25 hw => ?_)
      refine xr_aload_n C 1 dL_isTold_295 rfl rfl ?_
      refine xr_bipush C dL_isTold_296 (by decide +kernel) ?_
      refine xr_iald C (t0 := 0) 9 rfl rfl (by decide) (N := 64) rfl ⟨by decide, by decide⟩ dL_isTold_298 ?_
      obtain ⟨g26, hw⟩ := hw
      obtain ⟨g27, hw⟩ := hw
      refine xr_icmp_ne C g26 g27 400 dL_isTold_299 (by decide) (fun c28 => ?_) (fun c28 => ?_)
      · have hw := hw.1 c28
        refine xr_iconst C dL_isTold_400 ?_
        exact xr_zret C hr (Or.inl rfl) hw dL_isTold_401
      · have hw := hw.2 c28
        refine xr_aload_n C 0 dL_isTold_302 rfl rfl ?_
        refine xr_iconst C dL_isTold_303 ?_
        refine xr_callVi C (ci := 3) (q0 := 0) (As := [.int (i32 1)]) (rest := []) (sp_wXA_wX pv ad cI cJ cZ) (by decide) (fun h => h) (mX4_count σ25 1 _ hw) (cwV 1 C.2.2.2.2.1 gL_isTold_X4_count rfl rfl rfl (by decide +kernel) ⟨by decide, by decide⟩) rfl rfl rfl rfl (Nat.le_of_ble_eq_true rfl) ⟨by decide, by decide⟩ dL_isTold_304 (fun r29 σ30 hw => ?_)
        refine xr_iload_n C 2 dL_isTold_307 rfl rfl ?_
        obtain ⟨g31, hw⟩ := hw
        obtain ⟨g32, hw⟩ := hw
        refine xr_icmp_ne C g31 g32 400 dL_isTold_308 (by decide) (fun c33 => ?_) (fun c33 => ?_)
        · have hw := hw.1 c33
          refine xr_iconst C dL_isTold_400 ?_
          exact xr_zret C hr (Or.inl rfl) hw dL_isTold_401
        · have hw := hw.2 c33
          refine xr_aload_n C 0 dL_isTold_311 rfl rfl ?_
          refine xr_iconst C dL_isTold_312 ?_
          refine xr_callVi C (ci := 3) (q0 := 0) (As := [.int (i32 2)]) (rest := []) (sp_wXA_wX pv ad cI cJ cZ) (by decide) (fun h => h) (mX4_count σ30 2 _ hw) (cwV 1 C.2.2.2.2.1 gL_isTold_X4_count rfl rfl rfl (by decide +kernel) ⟨by decide, by decide⟩) rfl rfl rfl rfl (Nat.le_of_ble_eq_true rfl) ⟨by decide, by decide⟩ dL_isTold_313 (fun r34 σ35 hw => ?_)
          refine xr_aload_n C 1 dL_isTold_316 rfl rfl ?_
          refine xr_bipush C dL_isTold_317 (by decide +kernel) ?_
          refine xr_iald C (t0 := 0) 9 rfl rfl (by decide) (N := 64) rfl ⟨by decide, by decide⟩ dL_isTold_319 ?_
          obtain ⟨g36, hw⟩ := hw
          obtain ⟨g37, hw⟩ := hw
          refine xr_icmp_ne C g36 g37 400 dL_isTold_320 (by decide) (fun c38 => ?_) (fun c38 => ?_)
          · have hw := hw.1 c38
            refine xr_iconst C dL_isTold_400 ?_
            exact xr_zret C hr (Or.inl rfl) hw dL_isTold_401
          · have hw := hw.2 c38
            refine xr_aload_n C 0 dL_isTold_323 rfl rfl ?_
            refine xr_iconst C dL_isTold_324 ?_
            refine xr_callVi C (ci := 3) (q0 := 0) (As := [.int (i32 4)]) (rest := []) (sp_wXA_wX pv ad cI cJ cZ) (by decide) (fun h => h) (mX4_count σ35 4 _ hw) (cwV 1 C.2.2.2.2.1 gL_isTold_X4_count rfl rfl rfl (by decide +kernel) ⟨by decide, by decide⟩) rfl rfl rfl rfl (Nat.le_of_ble_eq_true rfl) ⟨by decide, by decide⟩ dL_isTold_325 (fun r39 σ40 hw => ?_)
            refine xr_aload_n C 1 dL_isTold_328 rfl rfl ?_
            refine xr_bipush C dL_isTold_329 (by decide +kernel) ?_
            refine xr_iald C (t0 := 0) 9 rfl rfl (by decide) (N := 64) rfl ⟨by decide, by decide⟩ dL_isTold_331 ?_
            obtain ⟨g41, hw⟩ := hw
            obtain ⟨g42, hw⟩ := hw
            refine xr_icmp_ne C g41 g42 400 dL_isTold_332 (by decide) (fun c43 => ?_) (fun c43 => ?_)
            · have hw := hw.1 c43
              refine xr_iconst C dL_isTold_400 ?_
              exact xr_zret C hr (Or.inl rfl) hw dL_isTold_401
            · have hw := hw.2 c43
              refine xr_aload_n C 0 dL_isTold_335 rfl rfl ?_
              refine xr_iconst C dL_isTold_336 ?_
              refine xr_callVi C (ci := 3) (q0 := 0) (As := [.int (i32 5)]) (rest := []) (sp_wXA_wX pv ad cI cJ cZ) (by decide) (fun h => h) (mX4_count σ40 5 _ hw) (cwV 1 C.2.2.2.2.1 gL_isTold_X4_count rfl rfl rfl (by decide +kernel) ⟨by decide, by decide⟩) rfl rfl rfl rfl (Nat.le_of_ble_eq_true rfl) ⟨by decide, by decide⟩ dL_isTold_337 (fun r44 σ45 hw => ?_)
              refine xr_iload_n C 3 dL_isTold_340 rfl rfl ?_
              obtain ⟨g46, hw⟩ := hw
              obtain ⟨g47, hw⟩ := hw
              refine xr_icmp_ne C g46 g47 400 dL_isTold_341 (by decide) (fun c48 => ?_) (fun c48 => ?_)
              · have hw := hw.1 c48
                refine xr_iconst C dL_isTold_400 ?_
                exact xr_zret C hr (Or.inl rfl) hw dL_isTold_401
              · have hw := hw.2 c48
                refine xr_aload_n C 0 dL_isTold_344 rfl rfl ?_
                refine xr_bipush C dL_isTold_345 (by decide +kernel) ?_
                refine xr_callVi C (ci := 3) (q0 := 0) (As := [.int (i32 6)]) (rest := []) (sp_wXA_wX pv ad cI cJ cZ) (by decide) (fun h => h) (mX4_count σ45 6 _ hw) (cwV 1 C.2.2.2.2.1 gL_isTold_X4_count rfl rfl rfl (by decide +kernel) ⟨by decide, by decide⟩) rfl rfl rfl rfl (Nat.le_of_ble_eq_true rfl) ⟨by decide, by decide⟩ dL_isTold_347 (fun r49 σ50 hw => ?_)
                refine xr_aload_n C 1 dL_isTold_350 rfl rfl ?_
                refine xr_bipush C dL_isTold_351 (by decide +kernel) ?_
                refine xr_iald C (t0 := 0) 9 rfl rfl (by decide) (N := 64) rfl ⟨by decide, by decide⟩ dL_isTold_353 ?_
                obtain ⟨g51, hw⟩ := hw
                obtain ⟨g52, hw⟩ := hw
                refine xr_icmp_ne C g51 g52 400 dL_isTold_354 (by decide) (fun c53 => ?_) (fun c53 => ?_)
                · have hw := hw.1 c53
                  refine xr_iconst C dL_isTold_400 ?_
                  exact xr_zret C hr (Or.inl rfl) hw dL_isTold_401
                · have hw := hw.2 c53
                  refine xr_aload_n C 0 dL_isTold_357 rfl rfl ?_
                  refine xr_bipush C dL_isTold_358 (by decide +kernel) ?_
                  refine xr_callVi C (ci := 3) (q0 := 0) (As := [.int (i32 7)]) (rest := []) (sp_wXA_wX pv ad cI cJ cZ) (by decide) (fun h => h) (mX4_count σ50 7 _ hw) (cwV 1 C.2.2.2.2.1 gL_isTold_X4_count rfl rfl rfl (by decide +kernel) ⟨by decide, by decide⟩) rfl rfl rfl rfl (Nat.le_of_ble_eq_true rfl) ⟨by decide, by decide⟩ dL_isTold_360 (fun r54 σ55 hw => ?_)
                  refine xr_aload_n C 1 dL_isTold_363 rfl rfl ?_
                  refine xr_bipush C dL_isTold_364 (by decide +kernel) ?_
                  refine xr_iald C (t0 := 0) 9 rfl rfl (by decide) (N := 64) rfl ⟨by decide, by decide⟩ dL_isTold_366 ?_
                  obtain ⟨g56, hw⟩ := hw
                  obtain ⟨g57, hw⟩ := hw
                  refine xr_icmp_ne C g56 g57 400 dL_isTold_367 (by decide) (fun c58 => ?_) (fun c58 => ?_)
                  · have hw := hw.1 c58
                    refine xr_iconst C dL_isTold_400 ?_
                    exact xr_zret C hr (Or.inl rfl) hw dL_isTold_401
                  · have hw := hw.2 c58
                    refine xr_aload_n C 0 dL_isTold_370 rfl rfl ?_
                    refine xr_aload_n C 1 dL_isTold_371 rfl rfl ?_
                    refine xr_bipush C dL_isTold_372 (by decide +kernel) ?_
                    refine xr_iald C (t0 := 0) 9 rfl rfl (by decide) (N := 64) rfl ⟨by decide, by decide⟩ dL_isTold_374 ?_
                    refine xr_iconst C dL_isTold_375 ?_
                    refine xr_callVi C (ci := 3) (q0 := 0) (As := [.int (i32 (σ55 40 21)), .int (i32 0)]) (rest := []) (sp_wXA_wX pv ad cI cJ cZ) (by decide) (fun h => h) (mX4_glass σ55 (σ55 40 21) 0 _ hw) (cwV 2 C.2.2.2.2.1 gL_isTold_X4_glass rfl rfl rfl (by decide +kernel) ⟨by decide, by decide⟩) rfl rfl rfl rfl (Nat.le_of_ble_eq_true rfl) ⟨by decide, by decide⟩ dL_isTold_376 (fun r59 σ60 hw => ?_)
                    refine xr_bipush C dL_isTold_379 (by decide +kernel) ?_
                    obtain ⟨g61, hw⟩ := hw
                    refine xr_icmp_ne C g61 ⟨by decide, by decide⟩ 400 dL_isTold_381 (by decide) (fun c62 => ?_) (fun c62 => ?_)
                    · have hw := hw.1 c62
                      refine xr_iconst C dL_isTold_400 ?_
                      exact xr_zret C hr (Or.inl rfl) hw dL_isTold_401
                    · have hw := hw.2 c62
                      refine xr_aload_n C 0 dL_isTold_384 rfl rfl ?_
                      refine xr_iconst C dL_isTold_385 ?_
                      refine xr_bipush C dL_isTold_386 (by decide +kernel) ?_
                      refine xr_callVi C (ci := 3) (q0 := 0) (As := [.int (i32 0), .int (i32 8)]) (rest := []) (sp_wXA_wX pv ad cI cJ cZ) (by decide) (fun h => h) (mX4_glass σ60 0 8 _ hw) (cwV 2 C.2.2.2.2.1 gL_isTold_X4_glass rfl rfl rfl (by decide +kernel) ⟨by decide, by decide⟩) rfl rfl rfl rfl (Nat.le_of_ble_eq_true rfl) ⟨by decide, by decide⟩ dL_isTold_388 (fun r63 σ64 hw => ?_)
                      refine xr_bipush C dL_isTold_391 (by decide +kernel) ?_
                      obtain ⟨g65, hw⟩ := hw
                      refine xr_icmp_ne C g65 ⟨by decide, by decide⟩ 400 dL_isTold_393 (by decide) (fun c66 => ?_) (fun c66 => ?_)
                      · have hw := hw.1 c66
                        refine xr_iconst C dL_isTold_400 ?_
                        exact xr_zret C hr (Or.inl rfl) hw dL_isTold_401
                      · have hw := hw.2 c66
                        refine xr_iconst C dL_isTold_396 ?_
                        refine xr_goto C 401 dL_isTold_397 (by decide) ?_
                        exact xr_zret C hr (Or.inr rfl) hw dL_isTold_401
    · have hw := hw.2 c23
      refine xr_aload_n C 1 dL_isTold_185 rfl rfl ?_
      refine xr_bipush C dL_isTold_186 (by decide +kernel) ?_
      refine xr_iload C 4 dL_isTold_188 rfl ?_
      refine xr_iadd C dL_isTold_190 ?_
      obtain ⟨g67, hw⟩ := hw
      refine xr_iald C (t0 := 0) 9 rfl rfl (by decide) (N := 64) rfl g67 dL_isTold_191 ?_
      refine xr_istore C [(0, .ref (ad 0)), (1, .ref (ad 40)), (2, .int (i32 x2)), (3, .int (i32 x3)), (4, .int (i32 x4)), (5, .int (i32 (σ0 40 ((30 + x4).toNat))))] dL_isTold_192 (by decide) rfl ?_
      refine xr_iload_n C 3 dL_isTold_194 rfl rfl ?_
      refine xr_iload C 5 dL_isTold_195 rfl ?_
      obtain ⟨g68, hw⟩ := hw
      refine xr_if_ge C g68 204 dL_isTold_197 (by decide) (fun c69 => ?_) (fun c69 => ?_)
      · have hw := hw.1 c69
        refine xr_iconst C dL_isTold_204 ?_
        refine xr_sub C [0, 1, 2, 4, 5] [(0, .ref (ad 0)), (1, .ref (ad 40)), (2, .int (i32 x2)), (4, .int (i32 x4)), (5, .int (i32 (σ0 40 ((30 + x4).toNat))))] rfl ?_
        exact B205 K178 hK178 x2 x4 (σ0 40 ((30 + x4).toNat)) x3 1 σ0 hw
      · have hw := hw.2 c69
        refine xr_iconst C dL_isTold_200 ?_
        refine xr_goto C 205 dL_isTold_201 (by decide) ?_
        refine xr_sub C [0, 1, 2, 4, 5] [(0, .ref (ad 0)), (1, .ref (ad 40)), (2, .int (i32 x2)), (4, .int (i32 x4)), (5, .int (i32 (σ0 40 ((30 + x4).toNat))))] rfl ?_
        exact B205 K178 hK178 x2 x4 (σ0 40 ((30 + x4).toNat)) x3 0 σ0 hw
  have B143 : ∀ (K4 : Int × Int × xS → Prop) (hK4 : ∀ a, K4 a → xX p l e rmL_isTold s m args below meth c D vwCl (va_A ((wXA pv ad cI cJ cZ) σ) s.heap.size) (wXA pv ad cI cJ cZ) [0, 1, 2, 3, 4, 5, 6, 7, 8, 40] σ 0 0 (MQ below (xQi D (wXA pv ad cI cJ cZ) [0, 1, 2, 3, 4, 5, 6, 7, 8, 40] σ s.heap.size Q) args s 0 0 (va_A ((wXA pv ad cI cJ cZ) σ) s.heap.size)) 6 (a.2.2) 4 [(0, .ref (ad 0)), (1, .ref (ad 40)), (2, .int (i32 (a.1))), (3, .int (i32 (a.2.1)))] []) (x2 x3 x4 y0 y1 : Int) (σ0 : xS), vL_isTold_143 K4 Q x2 x3 x4 y0 y1 σ0 → xX p l e rmL_isTold s m args below meth c D vwCl (va_A ((wXA pv ad cI cJ cZ) σ) s.heap.size) (wXA pv ad cI cJ cZ) [0, 1, 2, 3, 4, 5, 6, 7, 8, 40] σ 0 0 (MQ below (xQi D (wXA pv ad cI cJ cZ) [0, 1, 2, 3, 4, 5, 6, 7, 8, 40] σ s.heap.size Q) args s 0 0 (va_A ((wXA pv ad cI cJ cZ) σ) s.heap.size)) 6 σ0 143 [(0, .ref (ad 0)), (1, .ref (ad 40)), (2, .int (i32 x2)), (3, .int (i32 x3)), (4, .int (i32 x4))] [.int (i32 y1), .int (i32 y0)] := by
    intro K4 hK4 x2 x3 x4 y0 y1 σ0 hw
    unfold vL_isTold_143 at hw
    obtain ⟨g70, hw⟩ := hw
    obtain ⟨g71, hw⟩ := hw
    refine xr_icmp_eq C g70 g71 148 dL_isTold_143 (by decide) (fun c72 => ?_) (fun c72 => ?_)
    · have hw := hw.1 c72
      refine xr_iload_n C 2 dL_isTold_148 rfl rfl ?_
      refine xr_aload_n C 1 dL_isTold_149 rfl rfl ?_
      refine xr_iload C 4 dL_isTold_150 rfl ?_
      refine xr_bipush C dL_isTold_152 (by decide +kernel) ?_
      refine xr_iadd C dL_isTold_154 ?_
      obtain ⟨g73, hw⟩ := hw
      refine xr_iald C (t0 := 0) 9 rfl rfl (by decide) (N := 64) rfl g73 dL_isTold_155 ?_
      refine xr_iload_n C 3 dL_isTold_156 rfl rfl ?_
      obtain ⟨g74, hw⟩ := hw
      obtain ⟨g75, hw⟩ := hw
      refine xr_icmp_ne C g74 g75 164 dL_isTold_157 (by decide) (fun c76 => ?_) (fun c76 => ?_)
      · have hw := hw.1 c76
        refine xr_iconst C dL_isTold_164 ?_
        refine xr_iadd C dL_isTold_165 ?_
        refine xr_istore_n C [(0, .ref (ad 0)), (1, .ref (ad 40)), (2, .int (i32 (x2 + 0))), (3, .int (i32 x3)), (4, .int (i32 x4))] dL_isTold_166 rfl (by decide) rfl ?_
        refine xr_iinc C 3 [(0, .ref (ad 0)), (1, .ref (ad 40)), (2, .int (i32 (x2 + 0))), (3, .int (i32 (x3 + 1))), (4, .int (i32 x4))] dL_isTold_167 rfl (by decide) rfl ?_
        refine xr_goto C 4 dL_isTold_170 (by decide) ?_
        refine xr_sub C [0, 1, 2, 3] [(0, .ref (ad 0)), (1, .ref (ad 40)), (2, .int (i32 (x2 + 0))), (3, .int (i32 (x3 + 1)))] rfl ?_
        exact hK4 ((x2 + 0), (x3 + 1), σ0) hw
      · have hw := hw.2 c76
        refine xr_iconst C dL_isTold_160 ?_
        refine xr_goto C 165 dL_isTold_161 (by decide) ?_
        refine xr_iadd C dL_isTold_165 ?_
        refine xr_istore_n C [(0, .ref (ad 0)), (1, .ref (ad 40)), (2, .int (i32 (x2 + 1))), (3, .int (i32 x3)), (4, .int (i32 x4))] dL_isTold_166 rfl (by decide) rfl ?_
        refine xr_iinc C 3 [(0, .ref (ad 0)), (1, .ref (ad 40)), (2, .int (i32 (x2 + 1))), (3, .int (i32 (x3 + 1))), (4, .int (i32 x4))] dL_isTold_167 rfl (by decide) rfl ?_
        refine xr_goto C 4 dL_isTold_170 (by decide) ?_
        refine xr_sub C [0, 1, 2, 3] [(0, .ref (ad 0)), (1, .ref (ad 40)), (2, .int (i32 (x2 + 1))), (3, .int (i32 (x3 + 1)))] rfl ?_
        exact hK4 ((x2 + 1), (x3 + 1), σ0) hw
    · have hw := hw.2 c72
      refine xr_iconst C dL_isTold_146 ?_
      exact xr_zret C hr (Or.inl rfl) hw dL_isTold_147
  have L4 : ∀ a, mu (vL_isTold_4  Q) a → xX p l e rmL_isTold s m args below meth c D vwCl (va_A ((wXA pv ad cI cJ cZ) σ) s.heap.size) (wXA pv ad cI cJ cZ) [0, 1, 2, 3, 4, 5, 6, 7, 8, 40] σ 0 0 (MQ below (xQi D (wXA pv ad cI cJ cZ) [0, 1, 2, 3, 4, 5, 6, 7, 8, 40] σ s.heap.size Q) args s 0 0 (va_A ((wXA pv ad cI cJ cZ) σ) s.heap.size)) 6 (a.2.2) 4 [(0, .ref (ad 0)), (1, .ref (ad 40)), (2, .int (i32 (a.1))), (3, .int (i32 (a.2.1)))] [] := by
    refine mu_ind (fun K4 hK4 a hw => ?_)
    obtain ⟨x2, x3, σ0⟩ := a
    show xX p l e rmL_isTold s m args below meth c D vwCl (va_A ((wXA pv ad cI cJ cZ) σ) s.heap.size) (wXA pv ad cI cJ cZ) [0, 1, 2, 3, 4, 5, 6, 7, 8, 40] σ 0 0 (MQ below (xQi D (wXA pv ad cI cJ cZ) [0, 1, 2, 3, 4, 5, 6, 7, 8, 40] σ s.heap.size Q) args s 0 0 (va_A ((wXA pv ad cI cJ cZ) σ) s.heap.size)) 6 σ0 4 [(0, .ref (ad 0)), (1, .ref (ad 40)), (2, .int (i32 x2)), (3, .int (i32 x3))] []
    unfold vL_isTold_4 at hw
    refine xr_iload_n C 3 dL_isTold_4 rfl rfl ?_
    refine xr_aload_n C 1 dL_isTold_5 rfl rfl ?_
    refine xr_bipush C dL_isTold_6 (by decide +kernel) ?_
    refine xr_iald C (t0 := 0) 9 rfl rfl (by decide) (N := 64) rfl ⟨by decide, by decide⟩ dL_isTold_8 ?_
    obtain ⟨g77, hw⟩ := hw
    obtain ⟨g78, hw⟩ := hw
    refine xr_icmp_ge C g77 g78 173 dL_isTold_9 (by decide) (fun c79 => ?_) (fun c79 => ?_)
    · have hw := hw.1 c79
      refine xr_iconst C dL_isTold_173 ?_
      refine xr_istore_n C [(0, .ref (ad 0)), (1, .ref (ad 40)), (2, .int (i32 x2)), (3, .int (i32 0))] dL_isTold_174 rfl (by decide) rfl ?_
      refine xr_iconst C dL_isTold_175 ?_
      refine xr_istore C [(0, .ref (ad 0)), (1, .ref (ad 40)), (2, .int (i32 x2)), (3, .int (i32 0)), (4, .int (i32 0))] dL_isTold_176 (by decide) rfl ?_
      exact L178 (x2, 0, 0, σ0) hw
    · have hw := hw.2 c79
      refine xr_bipush C dL_isTold_12 (by decide +kernel) ?_
      refine xr_iload_n C 3 dL_isTold_14 rfl rfl ?_
      refine xr_imul C dL_isTold_15 ?_
      refine xr_istore C [(0, .ref (ad 0)), (1, .ref (ad 40)), (2, .int (i32 x2)), (3, .int (i32 x3)), (4, .int (i32 (7 * x3)))] dL_isTold_16 (by decide) rfl ?_
      refine xr_aload_n C 0 dL_isTold_18 rfl rfl ?_
      refine xr_iload_n C 3 dL_isTold_19 rfl rfl ?_
      refine xr_iconst C dL_isTold_20 ?_
      refine xr_callVi C (ci := 3) (q0 := 0) (As := [.int (i32 x3), .int (i32 0)]) (rest := []) (sp_wXA_wX pv ad cI cJ cZ) (by decide) (fun h => h) (mX4_glass σ0 x3 0 _ hw) (cwV 2 C.2.2.2.2.1 gL_isTold_X4_glass rfl rfl rfl (by decide +kernel) ⟨by decide, by decide⟩) rfl rfl rfl rfl (Nat.le_of_ble_eq_true rfl) ⟨by decide, by decide⟩ dL_isTold_21 (fun r80 σ81 hw => ?_)
      refine xr_aload_n C 1 dL_isTold_24 rfl rfl ?_
      refine xr_iload C 4 dL_isTold_25 rfl ?_
      obtain ⟨g82, hw⟩ := hw
      refine xr_iald C (t0 := 0) 9 rfl rfl (by decide) (N := 64) rfl g82 dL_isTold_27 ?_
      obtain ⟨g83, hw⟩ := hw
      obtain ⟨g84, hw⟩ := hw
      refine xr_icmp_ne C g83 g84 146 dL_isTold_28 (by decide) (fun c85 => ?_) (fun c85 => ?_)
      · have hw := hw.1 c85
        refine xr_iconst C dL_isTold_146 ?_
        exact xr_zret C hr (Or.inl rfl) hw dL_isTold_147
      · have hw := hw.2 c85
        refine xr_aload_n C 0 dL_isTold_31 rfl rfl ?_
        refine xr_iload_n C 3 dL_isTold_32 rfl rfl ?_
        refine xr_iconst C dL_isTold_33 ?_
        refine xr_callVi C (ci := 3) (q0 := 0) (As := [.int (i32 x3), .int (i32 1)]) (rest := []) (sp_wXA_wX pv ad cI cJ cZ) (by decide) (fun h => h) (mX4_glass σ81 x3 1 _ hw) (cwV 2 C.2.2.2.2.1 gL_isTold_X4_glass rfl rfl rfl (by decide +kernel) ⟨by decide, by decide⟩) rfl rfl rfl rfl (Nat.le_of_ble_eq_true rfl) ⟨by decide, by decide⟩ dL_isTold_34 (fun r86 σ87 hw => ?_)
        refine xr_aload_n C 1 dL_isTold_37 rfl rfl ?_
        refine xr_iload C 4 dL_isTold_38 rfl ?_
        refine xr_iconst C dL_isTold_40 ?_
        refine xr_iadd C dL_isTold_41 ?_
        obtain ⟨g88, hw⟩ := hw
        refine xr_iald C (t0 := 0) 9 rfl rfl (by decide) (N := 64) rfl g88 dL_isTold_42 ?_
        obtain ⟨g89, hw⟩ := hw
        obtain ⟨g90, hw⟩ := hw
        refine xr_icmp_ne C g89 g90 146 dL_isTold_43 (by decide) (fun c91 => ?_) (fun c91 => ?_)
        · have hw := hw.1 c91
          refine xr_iconst C dL_isTold_146 ?_
          exact xr_zret C hr (Or.inl rfl) hw dL_isTold_147
        · have hw := hw.2 c91
          refine xr_aload_n C 0 dL_isTold_46 rfl rfl ?_
          refine xr_iload_n C 3 dL_isTold_47 rfl rfl ?_
          refine xr_iconst C dL_isTold_48 ?_
          refine xr_callVi C (ci := 3) (q0 := 0) (As := [.int (i32 x3), .int (i32 2)]) (rest := []) (sp_wXA_wX pv ad cI cJ cZ) (by decide) (fun h => h) (mX4_glass σ87 x3 2 _ hw) (cwV 2 C.2.2.2.2.1 gL_isTold_X4_glass rfl rfl rfl (by decide +kernel) ⟨by decide, by decide⟩) rfl rfl rfl rfl (Nat.le_of_ble_eq_true rfl) ⟨by decide, by decide⟩ dL_isTold_49 (fun r92 σ93 hw => ?_)
          refine xr_aload_n C 1 dL_isTold_52 rfl rfl ?_
          refine xr_iload C 4 dL_isTold_53 rfl ?_
          refine xr_iconst C dL_isTold_55 ?_
          refine xr_iadd C dL_isTold_56 ?_
          obtain ⟨g94, hw⟩ := hw
          refine xr_iald C (t0 := 0) 9 rfl rfl (by decide) (N := 64) rfl g94 dL_isTold_57 ?_
          obtain ⟨g95, hw⟩ := hw
          obtain ⟨g96, hw⟩ := hw
          refine xr_icmp_ne C g95 g96 146 dL_isTold_58 (by decide) (fun c97 => ?_) (fun c97 => ?_)
          · have hw := hw.1 c97
            refine xr_iconst C dL_isTold_146 ?_
            exact xr_zret C hr (Or.inl rfl) hw dL_isTold_147
          · have hw := hw.2 c97
            refine xr_aload_n C 0 dL_isTold_61 rfl rfl ?_
            refine xr_iload_n C 3 dL_isTold_62 rfl rfl ?_
            refine xr_iconst C dL_isTold_63 ?_
            refine xr_callVi C (ci := 3) (q0 := 0) (As := [.int (i32 x3), .int (i32 3)]) (rest := []) (sp_wXA_wX pv ad cI cJ cZ) (by decide) (fun h => h) (mX4_glass σ93 x3 3 _ hw) (cwV 2 C.2.2.2.2.1 gL_isTold_X4_glass rfl rfl rfl (by decide +kernel) ⟨by decide, by decide⟩) rfl rfl rfl rfl (Nat.le_of_ble_eq_true rfl) ⟨by decide, by decide⟩ dL_isTold_64 (fun r98 σ99 hw => ?_)
            refine xr_aload_n C 1 dL_isTold_67 rfl rfl ?_
            refine xr_iload C 4 dL_isTold_68 rfl ?_
            refine xr_iconst C dL_isTold_70 ?_
            refine xr_iadd C dL_isTold_71 ?_
            obtain ⟨g100, hw⟩ := hw
            refine xr_iald C (t0 := 0) 9 rfl rfl (by decide) (N := 64) rfl g100 dL_isTold_72 ?_
            obtain ⟨g101, hw⟩ := hw
            obtain ⟨g102, hw⟩ := hw
            refine xr_icmp_ne C g101 g102 146 dL_isTold_73 (by decide) (fun c103 => ?_) (fun c103 => ?_)
            · have hw := hw.1 c103
              refine xr_iconst C dL_isTold_146 ?_
              exact xr_zret C hr (Or.inl rfl) hw dL_isTold_147
            · have hw := hw.2 c103
              refine xr_aload_n C 0 dL_isTold_76 rfl rfl ?_
              refine xr_iload_n C 3 dL_isTold_77 rfl rfl ?_
              refine xr_iconst C dL_isTold_78 ?_
              refine xr_callVi C (ci := 3) (q0 := 0) (As := [.int (i32 x3), .int (i32 4)]) (rest := []) (sp_wXA_wX pv ad cI cJ cZ) (by decide) (fun h => h) (mX4_glass σ99 x3 4 _ hw) (cwV 2 C.2.2.2.2.1 gL_isTold_X4_glass rfl rfl rfl (by decide +kernel) ⟨by decide, by decide⟩) rfl rfl rfl rfl (Nat.le_of_ble_eq_true rfl) ⟨by decide, by decide⟩ dL_isTold_79 (fun r104 σ105 hw => ?_)
              refine xr_aload_n C 1 dL_isTold_82 rfl rfl ?_
              refine xr_iload C 4 dL_isTold_83 rfl ?_
              refine xr_iconst C dL_isTold_85 ?_
              refine xr_iadd C dL_isTold_86 ?_
              obtain ⟨g106, hw⟩ := hw
              refine xr_iald C (t0 := 0) 9 rfl rfl (by decide) (N := 64) rfl g106 dL_isTold_87 ?_
              obtain ⟨g107, hw⟩ := hw
              obtain ⟨g108, hw⟩ := hw
              refine xr_icmp_ne C g107 g108 146 dL_isTold_88 (by decide) (fun c109 => ?_) (fun c109 => ?_)
              · have hw := hw.1 c109
                refine xr_iconst C dL_isTold_146 ?_
                exact xr_zret C hr (Or.inl rfl) hw dL_isTold_147
              · have hw := hw.2 c109
                refine xr_aload_n C 0 dL_isTold_91 rfl rfl ?_
                refine xr_iload_n C 3 dL_isTold_92 rfl rfl ?_
                refine xr_iconst C dL_isTold_93 ?_
                refine xr_callVi C (ci := 3) (q0 := 0) (As := [.int (i32 x3), .int (i32 5)]) (rest := []) (sp_wXA_wX pv ad cI cJ cZ) (by decide) (fun h => h) (mX4_glass σ105 x3 5 _ hw) (cwV 2 C.2.2.2.2.1 gL_isTold_X4_glass rfl rfl rfl (by decide +kernel) ⟨by decide, by decide⟩) rfl rfl rfl rfl (Nat.le_of_ble_eq_true rfl) ⟨by decide, by decide⟩ dL_isTold_94 (fun r110 σ111 hw => ?_)
                refine xr_aload_n C 1 dL_isTold_97 rfl rfl ?_
                refine xr_iload C 4 dL_isTold_98 rfl ?_
                refine xr_bipush C dL_isTold_100 (by decide +kernel) ?_
                refine xr_iadd C dL_isTold_102 ?_
                obtain ⟨g112, hw⟩ := hw
                refine xr_iald C (t0 := 0) 9 rfl rfl (by decide) (N := 64) rfl g112 dL_isTold_103 ?_
                obtain ⟨g113, hw⟩ := hw
                obtain ⟨g114, hw⟩ := hw
                refine xr_icmp_ne C g113 g114 146 dL_isTold_104 (by decide) (fun c115 => ?_) (fun c115 => ?_)
                · have hw := hw.1 c115
                  refine xr_iconst C dL_isTold_146 ?_
                  exact xr_zret C hr (Or.inl rfl) hw dL_isTold_147
                · have hw := hw.2 c115
                  refine xr_aload_n C 0 dL_isTold_107 rfl rfl ?_
                  refine xr_iload_n C 3 dL_isTold_108 rfl rfl ?_
                  refine xr_bipush C dL_isTold_109 (by decide +kernel) ?_
                  refine xr_callVi C (ci := 3) (q0 := 0) (As := [.int (i32 x3), .int (i32 6)]) (rest := []) (sp_wXA_wX pv ad cI cJ cZ) (by decide) (fun h => h) (mX4_glass σ111 x3 6 _ hw) (cwV 2 C.2.2.2.2.1 gL_isTold_X4_glass rfl rfl rfl (by decide +kernel) ⟨by decide, by decide⟩) rfl rfl rfl rfl (Nat.le_of_ble_eq_true rfl) ⟨by decide, by decide⟩ dL_isTold_111 (fun r116 σ117 hw => ?_)
                  refine xr_aload_n C 1 dL_isTold_114 rfl rfl ?_
                  refine xr_iload C 4 dL_isTold_115 rfl ?_
                  refine xr_iconst C dL_isTold_117 ?_
                  refine xr_iadd C dL_isTold_118 ?_
                  obtain ⟨g118, hw⟩ := hw
                  refine xr_iald C (t0 := 0) 9 rfl rfl (by decide) (N := 64) rfl g118 dL_isTold_119 ?_
                  obtain ⟨g119, hw⟩ := hw
                  obtain ⟨g120, hw⟩ := hw
                  refine xr_icmp_ne C g119 g120 146 dL_isTold_120 (by decide) (fun c121 => ?_) (fun c121 => ?_)
                  · have hw := hw.1 c121
                    refine xr_iconst C dL_isTold_146 ?_
                    exact xr_zret C hr (Or.inl rfl) hw dL_isTold_147
                  · have hw := hw.2 c121
                    refine xr_aload_n C 0 dL_isTold_123 rfl rfl ?_
                    refine xr_iload_n C 3 dL_isTold_124 rfl rfl ?_
                    refine xr_bipush C dL_isTold_125 (by decide +kernel) ?_
                    refine xr_callVi C (ci := 3) (q0 := 0) (As := [.int (i32 x3), .int (i32 7)]) (rest := []) (sp_wXA_wX pv ad cI cJ cZ) (by decide) (fun h => h) (mX4_glass σ117 x3 7 _ hw) (cwV 2 C.2.2.2.2.1 gL_isTold_X4_glass rfl rfl rfl (by decide +kernel) ⟨by decide, by decide⟩) rfl rfl rfl rfl (Nat.le_of_ble_eq_true rfl) ⟨by decide, by decide⟩ dL_isTold_127 (fun r122 σ123 hw => ?_)
                    refine xr_aload_n C 1 dL_isTold_130 rfl rfl ?_
                    refine xr_iload_n C 3 dL_isTold_131 rfl rfl ?_
                    refine xr_callSi C (As := [.ref (ad 40), .int (i32 x3)]) (rest := [.int (i32 r122)]) (sp_wXA_wA pv ad cI cJ cZ) (by decide) (fun h => h) (mL_runs σ123 x3 _ hw) (va_cwS 2 C.2.2.2.2.1 gL_isTold_L_runs rfl rfl rfl (by decide +kernel) ⟨by decide, by decide⟩) rfl rfl (Nat.le_of_ble_eq_true rfl) ⟨by decide, by decide⟩ dL_isTold_132 (fun r124 σ125 hw => ?_)
                    obtain ⟨g126, hw⟩ := hw
                    refine xr_if_eq C g126 142 dL_isTold_135 (by decide) (fun c127 => ?_) (fun c127 => ?_)
                    · have hw := hw.1 c127
                      refine xr_iconst C dL_isTold_142 ?_
                      exact B143 K4 hK4 x2 x3 (7 * x3) r122 0 σ125 hw
                    · have hw := hw.2 c127
                      refine xr_iconst C dL_isTold_138 ?_
                      refine xr_goto C 143 dL_isTold_139 (by decide) ?_
                      exact B143 K4 hK4 x2 x3 (7 * x3) r122 1 σ125 hw
  show xX p l e rmL_isTold s m args below meth c D vwCl (va_A ((wXA pv ad cI cJ cZ) σ) s.heap.size) (wXA pv ad cI cJ cZ) [0, 1, 2, 3, 4, 5, 6, 7, 8, 40] σ 0 0 (MQ below (xQi D (wXA pv ad cI cJ cZ) [0, 1, 2, 3, 4, 5, 6, 7, 8, 40] σ s.heap.size Q) args s 0 0 (va_A ((wXA pv ad cI cJ cZ) σ) s.heap.size)) 6 σ 0 [(0, .ref (ad 0)), (1, .ref (ad 40))] []
  unfold vL_isTold at hw
  refine xr_iconst C dL_isTold_0 ?_
  refine xr_istore_n C [(0, .ref (ad 0)), (1, .ref (ad 40)), (2, .int (i32 0))] dL_isTold_1 rfl (by decide) rfl ?_
  refine xr_iconst C dL_isTold_2 ?_
  refine xr_istore_n C [(0, .ref (ad 0)), (1, .ref (ad 40)), (2, .int (i32 0)), (3, .int (i32 0))] dL_isTold_3 rfl (by decide) rfl ?_
  exact L4 (0, 0, σ) hw
abbrev rmL_fixes : Room := { frames := 4, cells := 0, slots := 0, locals := 135 }
set_option maxHeartbeats 8000000 in
set_option maxRecDepth 100000 in
theorem mL_fixes {l : Launch} {D : va_G} {pv : Value} {ad : Nat → Nat} {cI cJ cZ : ClassId} (σ : xS) (a2 a3 : Int) (Q : Int → xS → Prop) (hw : vL_fixes a2 a3 σ Q) : xMi False l yL_fixes wsL_fixes rmL_fixes D (xtys cI cJ cZ) (wXA pv ad cI cJ cZ) [0, 1, 2, 3, 4, 5, 6, 7, 8, 40] σ [.ref (ad 0), .ref (ad 40), .int (i32 a2), .int (i32 a3)] Q := by
  refine xenter (F := [0, 1, 2, 3, 4, 5, 6, 7, 8, 40]) (Qc := fun sz => xQi D (wXA pv ad cI cJ cZ) [0, 1, 2, 3, 4, 5, 6, 7, 8, 40] σ sz Q) (own := RL) (cc := cL_fixes) (maxL := 8) (ret := some .boolean) (by decide) rfl rfl (Nat.le_of_ble_eq_true rfl) ?_
  intro p e s m args below meth c hargs C hr hnm
  have B128 : ∀ (K65 : Int × Int × Int × Int × Int × Int × xS → Prop) (hK65 : ∀ a, K65 a → xX p l e rmL_fixes s m args below meth c D vwCl (va_A ((wXA pv ad cI cJ cZ) σ) s.heap.size) (wXA pv ad cI cJ cZ) [0, 1, 2, 3, 4, 5, 6, 7, 8, 40] σ 0 0 (MQ below (xQi D (wXA pv ad cI cJ cZ) [0, 1, 2, 3, 4, 5, 6, 7, 8, 40] σ s.heap.size Q) args s 0 0 (va_A ((wXA pv ad cI cJ cZ) σ) s.heap.size)) 8 (a.2.2.2.2.2.2) 65 [(0, .ref (ad 0)), (1, .ref (ad 40)), (2, .int (i32 (a.1))), (3, .int (i32 (a.2.1))), (4, .int (i32 (a.2.2.1))), (5, .int (i32 (a.2.2.2.1))), (6, .int (i32 (a.2.2.2.2.1))), (7, .int (i32 (a.2.2.2.2.2.1)))] []) (x2 x3 x4 x5 x6 x7 y1 y2 : Int) (σ0 : xS), vL_fixes_128 K65 Q x2 x3 x4 x5 x6 x7 y1 y2 σ0 → xX p l e rmL_fixes s m args below meth c D vwCl (va_A ((wXA pv ad cI cJ cZ) σ) s.heap.size) (wXA pv ad cI cJ cZ) [0, 1, 2, 3, 4, 5, 6, 7, 8, 40] σ 0 0 (MQ below (xQi D (wXA pv ad cI cJ cZ) [0, 1, 2, 3, 4, 5, 6, 7, 8, 40] σ s.heap.size Q) args s 0 0 (va_A ((wXA pv ad cI cJ cZ) σ) s.heap.size)) 8 σ0 128 [(0, .ref (ad 0)), (1, .ref (ad 40)), (2, .int (i32 x2)), (3, .int (i32 x3)), (4, .int (i32 x4)), (5, .int (i32 x5)), (6, .int (i32 x6)), (7, .int (i32 x7))] [.int (i32 y2), .int (i32 y1), .ref (ad 40)] := by
    intro K65 hK65 x2 x3 x4 x5 x6 x7 y1 y2 σ0 hw
    unfold vL_fixes_128 at hw
    obtain ⟨g1, hw⟩ := hw
    refine xr_iast C (t0 := 0) (r := 40) 9 rfl rfl (by decide) (N := 64) rfl g1 wXA_st40 (by decide) dL_fixes_128 ?_
    refine xr_sig (fun σ2 e3 => ?_)
    have hw := hw σ2 e3
    refine xr_iinc C 7 [(0, .ref (ad 0)), (1, .ref (ad 40)), (2, .int (i32 x2)), (3, .int (i32 x3)), (4, .int (i32 x4)), (5, .int (i32 x5)), (6, .int (i32 x6)), (7, .int (i32 (x7 + 1)))] dL_fixes_129 rfl (by decide) rfl ?_
    refine xr_goto C 65 dL_fixes_132 (by decide) ?_
    exact hK65 (x2, x3, x4, x5, x6, (x7 + 1), σ2) hw
  have L65 : ∀ a, mu (vL_fixes_65  Q) a → xX p l e rmL_fixes s m args below meth c D vwCl (va_A ((wXA pv ad cI cJ cZ) σ) s.heap.size) (wXA pv ad cI cJ cZ) [0, 1, 2, 3, 4, 5, 6, 7, 8, 40] σ 0 0 (MQ below (xQi D (wXA pv ad cI cJ cZ) [0, 1, 2, 3, 4, 5, 6, 7, 8, 40] σ s.heap.size Q) args s 0 0 (va_A ((wXA pv ad cI cJ cZ) σ) s.heap.size)) 8 (a.2.2.2.2.2.2) 65 [(0, .ref (ad 0)), (1, .ref (ad 40)), (2, .int (i32 (a.1))), (3, .int (i32 (a.2.1))), (4, .int (i32 (a.2.2.1))), (5, .int (i32 (a.2.2.2.1))), (6, .int (i32 (a.2.2.2.2.1))), (7, .int (i32 (a.2.2.2.2.2.1)))] [] := by
    refine mu_ind (fun K65 hK65 a hw => ?_)
    obtain ⟨x2, x3, x4, x5, x6, x7, σ0⟩ := a
    show xX p l e rmL_fixes s m args below meth c D vwCl (va_A ((wXA pv ad cI cJ cZ) σ) s.heap.size) (wXA pv ad cI cJ cZ) [0, 1, 2, 3, 4, 5, 6, 7, 8, 40] σ 0 0 (MQ below (xQi D (wXA pv ad cI cJ cZ) [0, 1, 2, 3, 4, 5, 6, 7, 8, 40] σ s.heap.size Q) args s 0 0 (va_A ((wXA pv ad cI cJ cZ) σ) s.heap.size)) 8 σ0 65 [(0, .ref (ad 0)), (1, .ref (ad 40)), (2, .int (i32 x2)), (3, .int (i32 x3)), (4, .int (i32 x4)), (5, .int (i32 x5)), (6, .int (i32 x6)), (7, .int (i32 x7))] []
    unfold vL_fixes_65 at hw
    refine xr_iload C 7 dL_fixes_65 rfl ?_
    refine xr_aload_n C 1 dL_fixes_67 rfl rfl ?_
    refine xr_bipush C dL_fixes_68 (by decide +kernel) ?_
    refine xr_iald C (t0 := 0) 9 rfl rfl (by decide) (N := 64) rfl ⟨by decide, by decide⟩ dL_fixes_70 ?_
    obtain ⟨g4, hw⟩ := hw
    obtain ⟨g5, hw⟩ := hw
    refine xr_icmp_ge C g4 g5 135 dL_fixes_71 (by decide) (fun c6 => ?_) (fun c6 => ?_)
    · have hw := hw.1 c6
      refine xr_aload_n C 0 dL_fixes_135 rfl rfl ?_
      refine xr_iload_n C 2 dL_fixes_136 rfl rfl ?_
      refine xr_iload_n C 3 dL_fixes_137 rfl rfl ?_
      refine xr_callVi C (ci := 3) (q0 := 0) (As := [.int (i32 x2), .int (i32 x3)]) (rest := []) (sp_wXA_wX pv ad cI cJ cZ) (by decide) (fun h => h) (mX4_fix σ0 x2 x3 _ hw) (cwV 2 C.2.2.2.2.1 gL_fixes_X4_fix rfl rfl rfl (by decide +kernel) ⟨by decide, by decide⟩) rfl rfl rfl rfl (Nat.le_of_ble_eq_true rfl) ⟨by decide, by decide⟩ dL_fixes_138 (fun r7 σ8 hw => ?_)
      refine xr_iload C 6 dL_fixes_141 rfl ?_
      obtain ⟨g9, hw⟩ := hw
      obtain ⟨g10, hw⟩ := hw
      refine xr_icmp_ne C g9 g10 150 dL_fixes_143 (by decide) (fun c11 => ?_) (fun c11 => ?_)
      · have hw := hw.1 c11
        refine xr_iconst C dL_fixes_150 ?_
        exact xr_zret C hr (Or.inl rfl) hw dL_fixes_151
      · have hw := hw.2 c11
        refine xr_iconst C dL_fixes_146 ?_
        refine xr_goto C 151 dL_fixes_147 (by decide) ?_
        exact xr_zret C hr (Or.inr rfl) hw dL_fixes_151
    · have hw := hw.2 c6
      refine xr_aload_n C 1 dL_fixes_74 rfl rfl ?_
      refine xr_bipush C dL_fixes_75 (by decide +kernel) ?_
      refine xr_iload C 7 dL_fixes_77 rfl ?_
      refine xr_imul C dL_fixes_79 ?_
      refine xr_bipush C dL_fixes_80 (by decide +kernel) ?_
      refine xr_iadd C dL_fixes_82 ?_
      refine xr_aload_n C 1 dL_fixes_83 rfl rfl ?_
      refine xr_bipush C dL_fixes_84 (by decide +kernel) ?_
      refine xr_iload C 7 dL_fixes_86 rfl ?_
      refine xr_imul C dL_fixes_88 ?_
      refine xr_bipush C dL_fixes_89 (by decide +kernel) ?_
      refine xr_iadd C dL_fixes_91 ?_
      obtain ⟨g12, hw⟩ := hw
      refine xr_iald C (t0 := 0) 9 rfl rfl (by decide) (N := 64) rfl g12 dL_fixes_92 ?_
      refine xr_iload C 4 dL_fixes_93 rfl ?_
      obtain ⟨g13, hw⟩ := hw
      obtain ⟨g14, hw⟩ := hw
      refine xr_icmp_eq C g13 g14 113 dL_fixes_95 (by decide) (fun c15 => ?_) (fun c15 => ?_)
      · have hw := hw.1 c15
        refine xr_iload C 6 dL_fixes_113 rfl ?_
        refine xr_goto C 128 dL_fixes_115 (by decide) ?_
        exact B128 K65 hK65 x2 x3 x4 x5 x6 x7 ((7 * x7) + 6) x6 σ0 hw
      · have hw := hw.2 c15
        refine xr_aload_n C 1 dL_fixes_98 rfl rfl ?_
        refine xr_bipush C dL_fixes_99 (by decide +kernel) ?_
        refine xr_iload C 7 dL_fixes_101 rfl ?_
        refine xr_imul C dL_fixes_103 ?_
        refine xr_bipush C dL_fixes_104 (by decide +kernel) ?_
        refine xr_iadd C dL_fixes_106 ?_
        refine xr_iald C (t0 := 0) 9 rfl rfl (by decide) (N := 64) rfl g12 dL_fixes_107 ?_
        refine xr_iload C 5 dL_fixes_108 rfl ?_
        obtain ⟨g16, hw⟩ := hw
        refine xr_icmp_ne C g13 g16 118 dL_fixes_110 (by decide) (fun c17 => ?_) (fun c17 => ?_)
        · have hw := hw.1 c17
          refine xr_aload_n C 1 dL_fixes_118 rfl rfl ?_
          refine xr_bipush C dL_fixes_119 (by decide +kernel) ?_
          refine xr_iload C 7 dL_fixes_121 rfl ?_
          refine xr_imul C dL_fixes_123 ?_
          refine xr_bipush C dL_fixes_124 (by decide +kernel) ?_
          refine xr_iadd C dL_fixes_126 ?_
          refine xr_iald C (t0 := 0) 9 rfl rfl (by decide) (N := 64) rfl g12 dL_fixes_127 ?_
          exact B128 K65 hK65 x2 x3 x4 x5 x6 x7 ((7 * x7) + 6) (σ0 40 (((7 * x7) + 6).toNat)) σ0 hw
        · have hw := hw.2 c17
          refine xr_iload C 6 dL_fixes_113 rfl ?_
          refine xr_goto C 128 dL_fixes_115 (by decide) ?_
          exact B128 K65 hK65 x2 x3 x4 x5 x6 x7 ((7 * x7) + 6) x6 σ0 hw
  show xX p l e rmL_fixes s m args below meth c D vwCl (va_A ((wXA pv ad cI cJ cZ) σ) s.heap.size) (wXA pv ad cI cJ cZ) [0, 1, 2, 3, 4, 5, 6, 7, 8, 40] σ 0 0 (MQ below (xQi D (wXA pv ad cI cJ cZ) [0, 1, 2, 3, 4, 5, 6, 7, 8, 40] σ s.heap.size Q) args s 0 0 (va_A ((wXA pv ad cI cJ cZ) σ) s.heap.size)) 8 σ 0 [(0, .ref (ad 0)), (1, .ref (ad 40)), (2, .int (i32 a2)), (3, .int (i32 a3))] []
  unfold vL_fixes at hw
  refine xr_aload_n C 1 dL_fixes_0 rfl rfl ?_
  refine xr_bipush C dL_fixes_1 (by decide +kernel) ?_
  refine xr_iload_n C 2 dL_fixes_3 rfl rfl ?_
  refine xr_imul C dL_fixes_4 ?_
  refine xr_bipush C dL_fixes_5 (by decide +kernel) ?_
  refine xr_iadd C dL_fixes_7 ?_
  obtain ⟨g18, hw⟩ := hw
  refine xr_iald C (t0 := 0) 9 rfl rfl (by decide) (N := 64) rfl g18 dL_fixes_8 ?_
  refine xr_topi (fun t19 e20 => ?_)
  have hw := hw t19 e20
  refine xr_istore C [(0, .ref (ad 0)), (1, .ref (ad 40)), (2, .int (i32 a2)), (3, .int (i32 a3)), (4, .int (i32 t19))] dL_fixes_9 (by decide) rfl ?_
  refine xr_aload_n C 1 dL_fixes_11 rfl rfl ?_
  refine xr_bipush C dL_fixes_12 (by decide +kernel) ?_
  refine xr_iload_n C 3 dL_fixes_14 rfl rfl ?_
  refine xr_imul C dL_fixes_15 ?_
  refine xr_bipush C dL_fixes_16 (by decide +kernel) ?_
  refine xr_iadd C dL_fixes_18 ?_
  obtain ⟨g21, hw⟩ := hw
  refine xr_iald C (t0 := 0) 9 rfl rfl (by decide) (N := 64) rfl g21 dL_fixes_19 ?_
  refine xr_topi (fun t22 e23 => ?_)
  have hw := hw t22 e23
  refine xr_istore C [(0, .ref (ad 0)), (1, .ref (ad 40)), (2, .int (i32 a2)), (3, .int (i32 a3)), (4, .int (i32 t19)), (5, .int (i32 t22))] dL_fixes_20 (by decide) rfl ?_
  refine xr_iload C 4 dL_fixes_22 rfl ?_
  refine xr_iload C 5 dL_fixes_24 rfl ?_
  obtain ⟨g24, hw⟩ := hw
  obtain ⟨g25, hw⟩ := hw
  refine xr_icmp_ne C g24 g25 46 dL_fixes_26 (by decide) (fun c26 => ?_) (fun c26 => ?_)
  · have hw := hw.1 c26
    refine xr_iload C 4 dL_fixes_46 rfl ?_
    refine xr_iload C 5 dL_fixes_48 rfl ?_
    refine xr_icmp_ge C g24 g25 58 dL_fixes_50 (by decide) (fun c27 => ?_) (fun c27 => ?_)
    · have hw := hw.1 c27
      refine xr_iload C 5 dL_fixes_58 rfl ?_
      refine xr_istore C [(0, .ref (ad 0)), (1, .ref (ad 40)), (2, .int (i32 a2)), (3, .int (i32 a3)), (4, .int (i32 t19)), (5, .int (i32 t22)), (6, .int (i32 t22))] dL_fixes_60 (by decide) rfl ?_
      refine xr_iconst C dL_fixes_62 ?_
      refine xr_istore C [(0, .ref (ad 0)), (1, .ref (ad 40)), (2, .int (i32 a2)), (3, .int (i32 a3)), (4, .int (i32 t19)), (5, .int (i32 t22)), (6, .int (i32 t22)), (7, .int (i32 0))] dL_fixes_63 (by decide) rfl ?_
      exact L65 (a2, a3, t19, t22, t22, 0, σ) hw
    · have hw := hw.2 c27
      refine xr_iload C 4 dL_fixes_53 rfl ?_
      refine xr_goto C 60 dL_fixes_55 (by decide) ?_
      refine xr_istore C [(0, .ref (ad 0)), (1, .ref (ad 40)), (2, .int (i32 a2)), (3, .int (i32 a3)), (4, .int (i32 t19)), (5, .int (i32 t22)), (6, .int (i32 t19))] dL_fixes_60 (by decide) rfl ?_
      refine xr_iconst C dL_fixes_62 ?_
      refine xr_istore C [(0, .ref (ad 0)), (1, .ref (ad 40)), (2, .int (i32 a2)), (3, .int (i32 a3)), (4, .int (i32 t19)), (5, .int (i32 t22)), (6, .int (i32 t19)), (7, .int (i32 0))] dL_fixes_63 (by decide) rfl ?_
      exact L65 (a2, a3, t19, t22, t19, 0, σ) hw
  · have hw := hw.2 c26
    refine xr_aload_n C 0 dL_fixes_29 rfl rfl ?_
    refine xr_iload_n C 2 dL_fixes_30 rfl rfl ?_
    refine xr_iload_n C 3 dL_fixes_31 rfl rfl ?_
    refine xr_callVi C (ci := 3) (q0 := 0) (As := [.int (i32 a2), .int (i32 a3)]) (rest := []) (sp_wXA_wX pv ad cI cJ cZ) (by decide) (fun h => h) (mX4_fix σ a2 a3 _ hw) (cwV 2 C.2.2.2.2.1 gL_fixes_X4_fix rfl rfl rfl (by decide +kernel) ⟨by decide, by decide⟩) rfl rfl rfl rfl (Nat.le_of_ble_eq_true rfl) ⟨by decide, by decide⟩ dL_fixes_32 (fun r28 σ29 hw => ?_)
    refine xr_bipush C dL_fixes_35 (by decide +kernel) ?_
    obtain ⟨g30, hw⟩ := hw
    refine xr_icmp_ne C g30 ⟨by decide, by decide⟩ 44 dL_fixes_37 (by decide) (fun c31 => ?_) (fun c31 => ?_)
    · have hw := hw.1 c31
      refine xr_iconst C dL_fixes_44 ?_
      exact xr_zret C hr (Or.inl rfl) hw dL_fixes_45
    · have hw := hw.2 c31
      refine xr_iconst C dL_fixes_40 ?_
      refine xr_goto C 45 dL_fixes_41 (by decide) ?_
      exact xr_zret C hr (Or.inr rfl) hw dL_fixes_45
abbrev rmL_loosens : Room := { frames := 4, cells := 0, slots := 0, locals := 131 }
set_option maxHeartbeats 8000000 in
set_option maxRecDepth 100000 in
theorem mL_loosens {l : Launch} {D : va_G} {pv : Value} {ad : Nat → Nat} {cI cJ cZ : ClassId} (σ : xS) (a2 : Int) (Q : Int → xS → Prop) (hw : vL_loosens a2 σ Q) : xMi False l yL_loosens wsL_loosens rmL_loosens D (xtys cI cJ cZ) (wXA pv ad cI cJ cZ) [0, 1, 2, 3, 4, 5, 6, 7, 8, 40] σ [.ref (ad 0), .ref (ad 40), .int (i32 a2)] Q := by
  refine xenter (F := [0, 1, 2, 3, 4, 5, 6, 7, 8, 40]) (Qc := fun sz => xQi D (wXA pv ad cI cJ cZ) [0, 1, 2, 3, 4, 5, 6, 7, 8, 40] σ sz Q) (own := RL) (cc := cL_loosens) (maxL := 7) (ret := some .boolean) (by decide) rfl rfl (Nat.le_of_ble_eq_true rfl) ?_
  intro p e s m args below meth c hargs C hr hnm
  have B130 : ∀ (K83 : Int × Int × Int × Int × xS → Prop) (hK83 : ∀ a, K83 a → xX p l e rmL_loosens s m args below meth c D vwCl (va_A ((wXA pv ad cI cJ cZ) σ) s.heap.size) (wXA pv ad cI cJ cZ) [0, 1, 2, 3, 4, 5, 6, 7, 8, 40] σ 0 0 (MQ below (xQi D (wXA pv ad cI cJ cZ) [0, 1, 2, 3, 4, 5, 6, 7, 8, 40] σ s.heap.size Q) args s 0 0 (va_A ((wXA pv ad cI cJ cZ) σ) s.heap.size)) 7 (a.2.2.2.2) 83 [(0, .ref (ad 0)), (1, .ref (ad 40)), (2, .int (i32 (a.1))), (3, .int (i32 (a.2.1))), (5, .int (i32 (a.2.2.1))), (6, .int (i32 (a.2.2.2.1)))] []) (x2 x3 x5 x6 y1 y2 : Int) (σ0 : xS), vL_loosens_130 K83 Q x2 x3 x5 x6 y1 y2 σ0 → xX p l e rmL_loosens s m args below meth c D vwCl (va_A ((wXA pv ad cI cJ cZ) σ) s.heap.size) (wXA pv ad cI cJ cZ) [0, 1, 2, 3, 4, 5, 6, 7, 8, 40] σ 0 0 (MQ below (xQi D (wXA pv ad cI cJ cZ) [0, 1, 2, 3, 4, 5, 6, 7, 8, 40] σ s.heap.size Q) args s 0 0 (va_A ((wXA pv ad cI cJ cZ) σ) s.heap.size)) 7 σ0 130 [(0, .ref (ad 0)), (1, .ref (ad 40)), (2, .int (i32 x2)), (3, .int (i32 x3)), (5, .int (i32 x5)), (6, .int (i32 x6))] [.int (i32 y2), .int (i32 y1), .ref (ad 40)] := by
    intro K83 hK83 x2 x3 x5 x6 y1 y2 σ0 hw
    unfold vL_loosens_130 at hw
    obtain ⟨g1, hw⟩ := hw
    refine xr_iast C (t0 := 0) (r := 40) 9 rfl rfl (by decide) (N := 64) rfl g1 wXA_st40 (by decide) dL_loosens_130 ?_
    refine xr_sig (fun σ2 e3 => ?_)
    have hw := hw σ2 e3
    refine xr_iload C 4 dL_loosens_131 rfl ?_
    refine xr_aload_n C 1 dL_loosens_133 rfl rfl ?_
    refine xr_bipush C dL_loosens_134 (by decide +kernel) ?_
    refine xr_iload C 5 dL_loosens_136 rfl ?_
    refine xr_imul C dL_loosens_138 ?_
    refine xr_bipush C dL_loosens_139 (by decide +kernel) ?_
    refine xr_iadd C dL_loosens_141 ?_
    obtain ⟨g4, hw⟩ := hw
    refine xr_iald C (t0 := 0) 9 rfl rfl (by decide) (N := 64) rfl g4 dL_loosens_142 ?_
    refine xr_iload C 5 dL_loosens_143 rfl ?_
    obtain ⟨g5, hw⟩ := hw
    obtain ⟨g6, hw⟩ := hw
    refine xr_icmp_ne C g5 g6 152 dL_loosens_145 (by decide) (fun c7 => ?_) (fun c7 => ?_)
    · have hw := hw.1 c7
      refine xr_iconst C dL_loosens_152 ?_
      refine xr_iadd C dL_loosens_153 ?_
      refine xr_istore C [(0, .ref (ad 0)), (1, .ref (ad 40)), (2, .int (i32 x2)), (3, .int (i32 x3)), (5, .int (i32 (x5 + 0))), (6, .int (i32 x6))] dL_loosens_154 (by decide) rfl ?_
      refine xr_iinc C 5 [(0, .ref (ad 0)), (1, .ref (ad 40)), (2, .int (i32 x2)), (3, .int (i32 x3)), (5, .int (i32 (x5 + 0))), (6, .int (i32 (x6 + 1)))] dL_loosens_156 rfl (by decide) rfl ?_
      refine xr_goto C 83 dL_loosens_159 (by decide) ?_
      exact hK83 (x2, x3, (x5 + 0), (x6 + 1), σ2) hw
    · have hw := hw.2 c7
      refine xr_iconst C dL_loosens_148 ?_
      refine xr_goto C 153 dL_loosens_149 (by decide) ?_
      refine xr_iadd C dL_loosens_153 ?_
      refine xr_istore C [(0, .ref (ad 0)), (1, .ref (ad 40)), (2, .int (i32 x2)), (3, .int (i32 x3)), (5, .int (i32 (x5 + 1))), (6, .int (i32 x6))] dL_loosens_154 (by decide) rfl ?_
      refine xr_iinc C 5 [(0, .ref (ad 0)), (1, .ref (ad 40)), (2, .int (i32 x2)), (3, .int (i32 x3)), (5, .int (i32 (x5 + 1))), (6, .int (i32 (x6 + 1)))] dL_loosens_156 rfl (by decide) rfl ?_
      refine xr_goto C 83 dL_loosens_159 (by decide) ?_
      exact hK83 (x2, x3, (x5 + 1), (x6 + 1), σ2) hw
  have L83 : ∀ a, mu (vL_loosens_83  Q) a → xX p l e rmL_loosens s m args below meth c D vwCl (va_A ((wXA pv ad cI cJ cZ) σ) s.heap.size) (wXA pv ad cI cJ cZ) [0, 1, 2, 3, 4, 5, 6, 7, 8, 40] σ 0 0 (MQ below (xQi D (wXA pv ad cI cJ cZ) [0, 1, 2, 3, 4, 5, 6, 7, 8, 40] σ s.heap.size Q) args s 0 0 (va_A ((wXA pv ad cI cJ cZ) σ) s.heap.size)) 7 (a.2.2.2.2) 83 [(0, .ref (ad 0)), (1, .ref (ad 40)), (2, .int (i32 (a.1))), (3, .int (i32 (a.2.1))), (5, .int (i32 (a.2.2.1))), (6, .int (i32 (a.2.2.2.1)))] [] := by
    refine mu_ind (fun K83 hK83 a hw => ?_)
    obtain ⟨x2, x3, x5, x6, σ0⟩ := a
    show xX p l e rmL_loosens s m args below meth c D vwCl (va_A ((wXA pv ad cI cJ cZ) σ) s.heap.size) (wXA pv ad cI cJ cZ) [0, 1, 2, 3, 4, 5, 6, 7, 8, 40] σ 0 0 (MQ below (xQi D (wXA pv ad cI cJ cZ) [0, 1, 2, 3, 4, 5, 6, 7, 8, 40] σ s.heap.size Q) args s 0 0 (va_A ((wXA pv ad cI cJ cZ) σ) s.heap.size)) 7 σ0 83 [(0, .ref (ad 0)), (1, .ref (ad 40)), (2, .int (i32 x2)), (3, .int (i32 x3)), (5, .int (i32 x5)), (6, .int (i32 x6))] []
    unfold vL_loosens_83 at hw
    refine xr_iload C 5 dL_loosens_83 rfl ?_
    refine xr_aload_n C 1 dL_loosens_85 rfl rfl ?_
    refine xr_bipush C dL_loosens_86 (by decide +kernel) ?_
    refine xr_iald C (t0 := 0) 9 rfl rfl (by decide) (N := 64) rfl ⟨by decide, by decide⟩ dL_loosens_88 ?_
    obtain ⟨g8, hw⟩ := hw
    obtain ⟨g9, hw⟩ := hw
    refine xr_icmp_ge C g8 g9 162 dL_loosens_89 (by decide) (fun c10 => ?_) (fun c10 => ?_)
    · have hw := hw.1 c10
      refine xr_aload_n C 0 dL_loosens_162 rfl rfl ?_
      refine xr_iload_n C 2 dL_loosens_163 rfl rfl ?_
      refine xr_callVi C (ci := 3) (q0 := 0) (As := [.int (i32 x2)]) (rest := []) (sp_wXA_wX pv ad cI cJ cZ) (by decide) (fun h => h) (mX4_loosen σ0 x2 _ hw) (cwV 1 C.2.2.2.2.1 gL_loosens_X4_loosen rfl rfl rfl (by decide +kernel) ⟨by decide, by decide⟩) rfl rfl rfl rfl (Nat.le_of_ble_eq_true rfl) ⟨by decide, by decide⟩ dL_loosens_164 (fun r11 σ12 hw => ?_)
      refine xr_iload C 4 dL_loosens_167 rfl ?_
      obtain ⟨g13, hw⟩ := hw
      obtain ⟨g14, hw⟩ := hw
      refine xr_icmp_ne C g13 g14 176 dL_loosens_169 (by decide) (fun c15 => ?_) (fun c15 => ?_)
      · have hw := hw.1 c15
        refine xr_iconst C dL_loosens_176 ?_
        exact xr_zret C hr (Or.inl rfl) hw dL_loosens_177
      · have hw := hw.2 c15
        refine xr_iconst C dL_loosens_172 ?_
        refine xr_goto C 177 dL_loosens_173 (by decide) ?_
        exact xr_zret C hr (Or.inr rfl) hw dL_loosens_177
    · have hw := hw.2 c10
      refine xr_aload_n C 1 dL_loosens_92 rfl rfl ?_
      refine xr_bipush C dL_loosens_93 (by decide +kernel) ?_
      refine xr_iload C 5 dL_loosens_95 rfl ?_
      refine xr_imul C dL_loosens_97 ?_
      refine xr_bipush C dL_loosens_98 (by decide +kernel) ?_
      refine xr_iadd C dL_loosens_100 ?_
      refine xr_aload_n C 1 dL_loosens_101 rfl rfl ?_
      refine xr_bipush C dL_loosens_102 (by decide +kernel) ?_
      refine xr_iload C 5 dL_loosens_104 rfl ?_
      refine xr_imul C dL_loosens_106 ?_
      refine xr_bipush C dL_loosens_107 (by decide +kernel) ?_
      refine xr_iadd C dL_loosens_109 ?_
      obtain ⟨g16, hw⟩ := hw
      refine xr_iald C (t0 := 0) 9 rfl rfl (by decide) (N := 64) rfl g16 dL_loosens_110 ?_
      refine xr_iload_n C 3 dL_loosens_111 rfl rfl ?_
      obtain ⟨g17, hw⟩ := hw
      obtain ⟨g18, hw⟩ := hw
      refine xr_icmp_ne C g17 g18 120 dL_loosens_112 (by decide) (fun c19 => ?_) (fun c19 => ?_)
      · have hw := hw.1 c19
        refine xr_aload_n C 1 dL_loosens_120 rfl rfl ?_
        refine xr_bipush C dL_loosens_121 (by decide +kernel) ?_
        refine xr_iload C 5 dL_loosens_123 rfl ?_
        refine xr_imul C dL_loosens_125 ?_
        refine xr_bipush C dL_loosens_126 (by decide +kernel) ?_
        refine xr_iadd C dL_loosens_128 ?_
        refine xr_iald C (t0 := 0) 9 rfl rfl (by decide) (N := 64) rfl g16 dL_loosens_129 ?_
        exact B130 K83 hK83 x2 x3 x5 x6 ((7 * x6) + 6) (σ0 40 (((7 * x6) + 6).toNat)) σ0 hw
      · have hw := hw.2 c19
        refine xr_iload C 5 dL_loosens_115 rfl ?_
        refine xr_goto C 130 dL_loosens_117 (by decide) ?_
        exact B130 K83 hK83 x2 x3 x5 x6 ((7 * x6) + 6) x6 σ0 hw
  have L19 : ∀ a, mu (vL_loosens_19  Q) a → xX p l e rmL_loosens s m args below meth c D vwCl (va_A ((wXA pv ad cI cJ cZ) σ) s.heap.size) (wXA pv ad cI cJ cZ) [0, 1, 2, 3, 4, 5, 6, 7, 8, 40] σ 0 0 (MQ below (xQi D (wXA pv ad cI cJ cZ) [0, 1, 2, 3, 4, 5, 6, 7, 8, 40] σ s.heap.size Q) args s 0 0 (va_A ((wXA pv ad cI cJ cZ) σ) s.heap.size)) 7 (a.2.2.2.2.2) 19 [(0, .ref (ad 0)), (1, .ref (ad 40)), (2, .int (i32 (a.1))), (3, .int (i32 (a.2.1))), (4, .int (i32 (a.2.2.1))), (5, .int (i32 (a.2.2.2.1))), (6, .int (i32 (a.2.2.2.2.1)))] [] := by
    refine mu_ind (fun K19 hK19 a hw => ?_)
    obtain ⟨x2, x3, x4, x5, x6, σ0⟩ := a
    show xX p l e rmL_loosens s m args below meth c D vwCl (va_A ((wXA pv ad cI cJ cZ) σ) s.heap.size) (wXA pv ad cI cJ cZ) [0, 1, 2, 3, 4, 5, 6, 7, 8, 40] σ 0 0 (MQ below (xQi D (wXA pv ad cI cJ cZ) [0, 1, 2, 3, 4, 5, 6, 7, 8, 40] σ s.heap.size Q) args s 0 0 (va_A ((wXA pv ad cI cJ cZ) σ) s.heap.size)) 7 σ0 19 [(0, .ref (ad 0)), (1, .ref (ad 40)), (2, .int (i32 x2)), (3, .int (i32 x3)), (4, .int (i32 x4)), (5, .int (i32 x5)), (6, .int (i32 x6))] []
    unfold vL_loosens_19 at hw
    refine xr_iload C 6 dL_loosens_19 rfl ?_
    refine xr_aload_n C 1 dL_loosens_21 rfl rfl ?_
    refine xr_bipush C dL_loosens_22 (by decide +kernel) ?_
    refine xr_iald C (t0 := 0) 9 rfl rfl (by decide) (N := 64) rfl ⟨by decide, by decide⟩ dL_loosens_24 ?_
    obtain ⟨g20, hw⟩ := hw
    obtain ⟨g21, hw⟩ := hw
    refine xr_icmp_ge C g20 g21 58 dL_loosens_25 (by decide) (fun c22 => ?_) (fun c22 => ?_)
    · have hw := hw.1 c22
      refine xr_iload C 4 dL_loosens_58 rfl ?_
      refine xr_iconst C dL_loosens_60 ?_
      obtain ⟨g23, hw⟩ := hw
      refine xr_icmp_ne C g23 ⟨by decide, by decide⟩ 80 dL_loosens_61 (by decide) (fun c24 => ?_) (fun c24 => ?_)
      · have hw := hw.1 c24
        refine xr_iconst C dL_loosens_80 ?_
        refine xr_istore C [(0, .ref (ad 0)), (1, .ref (ad 40)), (2, .int (i32 x2)), (3, .int (i32 x3)), (4, .int (i32 x4)), (5, .int (i32 x5)), (6, .int (i32 0))] dL_loosens_81 (by decide) rfl ?_
        refine xr_sub C [0, 1, 2, 3, 5, 6] [(0, .ref (ad 0)), (1, .ref (ad 40)), (2, .int (i32 x2)), (3, .int (i32 x3)), (5, .int (i32 x5)), (6, .int (i32 0))] rfl ?_
        exact L83 (x2, x3, x5, 0, σ0) hw
      · have hw := hw.2 c24
        refine xr_aload_n C 0 dL_loosens_64 rfl rfl ?_
        refine xr_iload_n C 2 dL_loosens_65 rfl rfl ?_
        refine xr_callVi C (ci := 3) (q0 := 0) (As := [.int (i32 x2)]) (rest := []) (sp_wXA_wX pv ad cI cJ cZ) (by decide) (fun h => h) (mX4_loosen σ0 x2 _ hw) (cwV 1 C.2.2.2.2.1 gL_loosens_X4_loosen rfl rfl rfl (by decide +kernel) ⟨by decide, by decide⟩) rfl rfl rfl rfl (Nat.le_of_ble_eq_true rfl) ⟨by decide, by decide⟩ dL_loosens_66 (fun r25 σ26 hw => ?_)
        refine xr_bipush C dL_loosens_69 (by decide +kernel) ?_
        obtain ⟨g27, hw⟩ := hw
        refine xr_icmp_ne C g27 ⟨by decide, by decide⟩ 78 dL_loosens_71 (by decide) (fun c28 => ?_) (fun c28 => ?_)
        · have hw := hw.1 c28
          refine xr_iconst C dL_loosens_78 ?_
          exact xr_zret C hr (Or.inl rfl) hw dL_loosens_79
        · have hw := hw.2 c28
          refine xr_iconst C dL_loosens_74 ?_
          refine xr_goto C 79 dL_loosens_75 (by decide) ?_
          exact xr_zret C hr (Or.inr rfl) hw dL_loosens_79
    · have hw := hw.2 c22
      refine xr_iload C 4 dL_loosens_28 rfl ?_
      refine xr_aload_n C 1 dL_loosens_30 rfl rfl ?_
      refine xr_bipush C dL_loosens_31 (by decide +kernel) ?_
      refine xr_iload C 6 dL_loosens_33 rfl ?_
      refine xr_imul C dL_loosens_35 ?_
      refine xr_bipush C dL_loosens_36 (by decide +kernel) ?_
      refine xr_iadd C dL_loosens_38 ?_
      obtain ⟨g29, hw⟩ := hw
      refine xr_iald C (t0 := 0) 9 rfl rfl (by decide) (N := 64) rfl g29 dL_loosens_39 ?_
      refine xr_iload_n C 3 dL_loosens_40 rfl rfl ?_
      obtain ⟨g30, hw⟩ := hw
      obtain ⟨g31, hw⟩ := hw
      refine xr_icmp_ne C g30 g31 48 dL_loosens_41 (by decide) (fun c32 => ?_) (fun c32 => ?_)
      · have hw := hw.1 c32
        refine xr_iconst C dL_loosens_48 ?_
        refine xr_iadd C dL_loosens_49 ?_
        refine xr_istore C [(0, .ref (ad 0)), (1, .ref (ad 40)), (2, .int (i32 x2)), (3, .int (i32 x3)), (4, .int (i32 (x4 + 0))), (5, .int (i32 x5)), (6, .int (i32 x6))] dL_loosens_50 (by decide) rfl ?_
        refine xr_iinc C 6 [(0, .ref (ad 0)), (1, .ref (ad 40)), (2, .int (i32 x2)), (3, .int (i32 x3)), (4, .int (i32 (x4 + 0))), (5, .int (i32 x5)), (6, .int (i32 (x6 + 1)))] dL_loosens_52 rfl (by decide) rfl ?_
        refine xr_goto C 19 dL_loosens_55 (by decide) ?_
        exact hK19 (x2, x3, (x4 + 0), x5, (x6 + 1), σ0) hw
      · have hw := hw.2 c32
        refine xr_iconst C dL_loosens_44 ?_
        refine xr_goto C 49 dL_loosens_45 (by decide) ?_
        refine xr_iadd C dL_loosens_49 ?_
        refine xr_istore C [(0, .ref (ad 0)), (1, .ref (ad 40)), (2, .int (i32 x2)), (3, .int (i32 x3)), (4, .int (i32 (x4 + 1))), (5, .int (i32 x5)), (6, .int (i32 x6))] dL_loosens_50 (by decide) rfl ?_
        refine xr_iinc C 6 [(0, .ref (ad 0)), (1, .ref (ad 40)), (2, .int (i32 x2)), (3, .int (i32 x3)), (4, .int (i32 (x4 + 1))), (5, .int (i32 x5)), (6, .int (i32 (x6 + 1)))] dL_loosens_52 rfl (by decide) rfl ?_
        refine xr_goto C 19 dL_loosens_55 (by decide) ?_
        exact hK19 (x2, x3, (x4 + 1), x5, (x6 + 1), σ0) hw
  show xX p l e rmL_loosens s m args below meth c D vwCl (va_A ((wXA pv ad cI cJ cZ) σ) s.heap.size) (wXA pv ad cI cJ cZ) [0, 1, 2, 3, 4, 5, 6, 7, 8, 40] σ 0 0 (MQ below (xQi D (wXA pv ad cI cJ cZ) [0, 1, 2, 3, 4, 5, 6, 7, 8, 40] σ s.heap.size Q) args s 0 0 (va_A ((wXA pv ad cI cJ cZ) σ) s.heap.size)) 7 σ 0 [(0, .ref (ad 0)), (1, .ref (ad 40)), (2, .int (i32 a2))] []
  unfold vL_loosens at hw
  refine xr_aload_n C 1 dL_loosens_0 rfl rfl ?_
  refine xr_bipush C dL_loosens_1 (by decide +kernel) ?_
  refine xr_iload_n C 2 dL_loosens_3 rfl rfl ?_
  refine xr_imul C dL_loosens_4 ?_
  refine xr_bipush C dL_loosens_5 (by decide +kernel) ?_
  refine xr_iadd C dL_loosens_7 ?_
  obtain ⟨g33, hw⟩ := hw
  refine xr_iald C (t0 := 0) 9 rfl rfl (by decide) (N := 64) rfl g33 dL_loosens_8 ?_
  refine xr_topi (fun t34 e35 => ?_)
  have hw := hw t34 e35
  refine xr_istore_n C [(0, .ref (ad 0)), (1, .ref (ad 40)), (2, .int (i32 a2)), (3, .int (i32 t34))] dL_loosens_9 rfl (by decide) rfl ?_
  refine xr_iconst C dL_loosens_10 ?_
  refine xr_istore C [(0, .ref (ad 0)), (1, .ref (ad 40)), (2, .int (i32 a2)), (3, .int (i32 t34)), (4, .int (i32 0))] dL_loosens_11 (by decide) rfl ?_
  refine xr_iconst C dL_loosens_13 ?_
  refine xr_istore C [(0, .ref (ad 0)), (1, .ref (ad 40)), (2, .int (i32 a2)), (3, .int (i32 t34)), (4, .int (i32 0)), (5, .int (i32 0))] dL_loosens_14 (by decide) rfl ?_
  refine xr_iconst C dL_loosens_16 ?_
  refine xr_istore C [(0, .ref (ad 0)), (1, .ref (ad 40)), (2, .int (i32 a2)), (3, .int (i32 t34)), (4, .int (i32 0)), (5, .int (i32 0)), (6, .int (i32 0))] dL_loosens_17 (by decide) rfl ?_
  exact L19 (a2, t34, 0, 0, 0, σ) hw
