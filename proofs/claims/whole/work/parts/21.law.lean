def RF : xS → (xS → Prop) → Prop := fun _ _ => False
def lawS0 (P : Bool) (a b c : Int) (σ : xS) (K : Bool → xS → Prop) : Prop := vX4_type a σ (fun r u => vX5_type a u (fun r2 u2 => r = r2 ∧ K P u2))
def lawS1 (P : Bool) (a b c : Int) (σ : xS) (K : Bool → xS → Prop) : Prop := vX4_clearText σ (fun r u => vX5_clearText u (fun r2 u2 => r = r2 ∧ K P u2))
def lawS2 (P : Bool) (a b c : Int) (σ : xS) (K : Bool → xS → Prop) : Prop := vX4_fault σ (fun r u => vX5_fault u (fun r2 u2 => r = r2 ∧ K P u2))
def lawS3 (P : Bool) (a b c : Int) (σ : xS) (K : Bool → xS → Prop) : Prop := vX4_setGlasses a σ (fun r u => vX5_setGlasses a u (fun r2 u2 => r = r2 ∧ K P u2))
def lawS4 (P : Bool) (a b c : Int) (σ : xS) (K : Bool → xS → Prop) : Prop := vX4_setAmount a b σ (fun r u => vX5_setAmount a b u (fun r2 u2 => r = r2 ∧ K P u2))
def lawS5 (P : Bool) (a b c : Int) (σ : xS) (K : Bool → xS → Prop) : Prop := vX4_setKind a b c σ (fun r u => vX5_setKind a b c u (fun r2 u2 => r = r2 ∧ K P u2))
def lawS6 (P : Bool) (a b c : Int) (σ : xS) (K : Bool → xS → Prop) : Prop := vX4_fix a b σ (fun r u => vX5_fix a b u (fun r2 u2 => r = r2 ∧ K P u2))
def lawS7 (P : Bool) (a b c : Int) (σ : xS) (K : Bool → xS → Prop) : Prop := vX4_loosen a σ (fun r u => vX5_loosen a u (fun r2 u2 => r = r2 ∧ K P u2))
def lawS8 (P : Bool) (a b c : Int) (σ : xS) (K : Bool → xS → Prop) : Prop := vX4_turn a σ (fun r u => vX5_turn a u (fun r2 u2 => r = r2 ∧ K P u2))
def lawS9 (P : Bool) (a b c : Int) (σ : xS) (K : Bool → xS → Prop) : Prop := vX4_tap a σ (fun r u => vX5_tap a u (fun r2 u2 => r = r2 ∧ K P u2))
def lawS10 (P : Bool) (a b c : Int) (σ : xS) (K : Bool → xS → Prop) : Prop := vX4_pass a σ (fun r u => vX5_pass a u (fun r2 u2 => r = r2 ∧ K P u2))
def lawS11 (P : Bool) (a b c : Int) (σ : xS) (K : Bool → xS → Prop) : Prop := vX4_await σ (fun r u => vX5_await u (fun r2 u2 => r = r2 ∧ K P u2))
def lawS12 (P : Bool) (a b c : Int) (σ : xS) (K : Bool → xS → Prop) : Prop := vX4_mark σ (fun r u => vX5_mark u (fun r2 u2 => r = r2 ∧ K P u2))
def lawS13 (P : Bool) (a b c : Int) (σ : xS) (K : Bool → xS → Prop) : Prop := vX4_run σ (fun r u => vX5_run u (fun r2 u2 => r = r2 ∧ K P u2))
def lawS14 (P : Bool) (a b c : Int) (σ : xS) (K : Bool → xS → Prop) : Prop := vX4_undo σ (fun r u => vX5_undo u (fun r2 u2 => r = r2 ∧ K P u2))
def lawS15 (P : Bool) (a b c : Int) (σ : xS) (K : Bool → xS → Prop) : Prop := vX4_glass a b σ (fun r u => vX5_glass a b u (fun r2 u2 => r = r2 ∧ K P u2))
def lawS16 (P : Bool) (a b c : Int) (σ : xS) (K : Bool → xS → Prop) : Prop := vX4_event a b σ (fun r u => vX5_event a b u (fun r2 u2 => r = r2 ∧ K P u2))
def lawS17 (P : Bool) (a b c : Int) (σ : xS) (K : Bool → xS → Prop) : Prop := match P with
  | true => vX4_cost vRPP a σ (fun r f u => vX5_cost a u (fun r2 u2 => r = r2 ∧ K true u2))
  | false => ((a < 1 ∨ 40 < a) → vX4_cost RF a σ (fun r f u => f = false ∧ vX5_cost a u (fun r2 u2 => r = r2 ∧ K false u2))) ∧ (¬ (a < 1 ∨ 40 < a) → vX4_cost vRPN a σ (fun r f u => f = true ∧ vX5_cost a u (fun r2 u2 => r = r2 ∧ K true u2)))
def lawS18 (P : Bool) (a b c : Int) (σ : xS) (K : Bool → xS → Prop) : Prop := match P with
  | true => vX4_planned vRPP a b (if c = 0 then 0 else 1) σ (fun r f u => vX5_planned a b (if c = 0 then 0 else 1) u (fun r2 u2 => r = r2 ∧ K true u2))
  | false => (((a < 1 ∨ 40 < a) ∨ b < 0) → vX4_planned RF a b (if c = 0 then 0 else 1) σ (fun r f u => f = false ∧ vX5_planned a b (if c = 0 then 0 else 1) u (fun r2 u2 => r = r2 ∧ K false u2))) ∧ (¬ ((a < 1 ∨ 40 < a) ∨ b < 0) → vX4_planned vRPN a b (if c = 0 then 0 else 1) σ (fun r f u => f = true ∧ vX5_planned a b (if c = 0 then 0 else 1) u (fun r2 u2 => r = r2 ∧ K true u2)))
def lawS19 (P : Bool) (a b c : Int) (σ : xS) (K : Bool → xS → Prop) : Prop := match P with
  | true => vX4_measurable vRPP a b σ (fun r f u => vX5_measurable a b u (fun r2 u2 => r = r2 ∧ K true u2))
  | false => ((a < -1 ∨ (b < 0 ∨ 9 < b)) → vX4_measurable RF a b σ (fun r f u => f = false ∧ vX5_measurable a b u (fun r2 u2 => r = r2 ∧ K false u2))) ∧ (¬ (a < -1 ∨ (b < 0 ∨ 9 < b)) → vX4_measurable vRPN a b σ (fun r f u => f = true ∧ vX5_measurable a b u (fun r2 u2 => r = r2 ∧ K true u2)))
def lawS20 (P : Bool) (a b c : Int) (σ : xS) (K : Bool → xS → Prop) : Prop := vX4_count a σ (fun r u => vX5_count a u (fun r2 u2 => r = r2 ∧ K P u2))
def lawS21 (P : Bool) (a b c : Int) (σ : xS) (K : Bool → xS → Prop) : Prop := match P with
  | true => vX4_digest vRPP σ (fun r f u => vX5_digest u (fun r2 u2 => r = r2 ∧ K true u2))
  | false => vX4_digest vRPN σ (fun r f u => f = true ∧ vX5_digest u (fun r2 u2 => r = r2 ∧ K true u2))
def lawS (P : Bool) (k a b c : Int) (σ : xS) (K : Bool → xS → Prop) : Prop := (k < 0 ∨ 21 < k → K P σ) ∧ (k = 0 → lawS0 P a b c σ K) ∧ (k = 1 → lawS1 P a b c σ K) ∧ (k = 2 → lawS2 P a b c σ K) ∧ (k = 3 → lawS3 P a b c σ K) ∧ (k = 4 → lawS4 P a b c σ K) ∧ (k = 5 → lawS5 P a b c σ K) ∧ (k = 6 → lawS6 P a b c σ K) ∧ (k = 7 → lawS7 P a b c σ K) ∧ (k = 8 → lawS8 P a b c σ K) ∧ (k = 9 → lawS9 P a b c σ K) ∧ (k = 10 → lawS10 P a b c σ K) ∧ (k = 11 → lawS11 P a b c σ K) ∧ (k = 12 → lawS12 P a b c σ K) ∧ (k = 13 → lawS13 P a b c σ K) ∧ (k = 14 → lawS14 P a b c σ K) ∧ (k = 15 → lawS15 P a b c σ K) ∧ (k = 16 → lawS16 P a b c σ K) ∧ (k = 17 → lawS17 P a b c σ K) ∧ (k = 18 → lawS18 P a b c σ K) ∧ (k = 19 → lawS19 P a b c σ K) ∧ (k = 20 → lawS20 P a b c σ K) ∧ (k = 21 → lawS21 P a b c σ K)
set_option maxHeartbeats 8000000 in
set_option maxRecDepth 200000 in
theorem law_f0 {p : Program} {l : Launch} {e : Env} {s : State} {m : MethodId} {below : List Frame} {meth : Method} {c : Code} {D : va_G} {b L b1 : Nat} {xs : Nat → Int32} {cI cJ cZ : ClassId} {adm : Nat → Nat} {σ00 : xS} (hL : L ≤ 2048) (C : xC True p s m #[.ref b] meth c cL_law 4 RL wsL_law D vwCl (xtys cI cJ cZ) (fun q : Nat => s.heap.size ≤ q)) (hX : va_X b L xs s s.heap) (hbl : b < s.heap.size) {Rel : Bool → xS → Prop} {ad : Nat → Nat} {σ : xS} {i : Int} (hi0 : 0 ≤ i) (hi1 : i + 4 ≤ (L : Int)) (hb1 : ad 0 = b1) (hK : ∀ (P2 : Bool) (ad2 : Nat → Nat) (u : xS), ad2 0 = b1 → Rel P2 u → xX p l e room_1 s m #[.ref b] below meth c D vwCl (fun q : Nat => s.heap.size ≤ q) (wL P2 ad2 adm cI cJ cZ) FL σ00 (cL P2) (sL P2) (lw_Z below #[.ref b] s) 4 u 679 [(0, .ref b), (1, .ref b1), (2, .ref (adm 20)), (3, .int (i32 i))] []) (hw : lawS0 false ((xs (i + 1).toNat).toInt) ((xs (i + 2).toNat).toInt) ((xs (i + 3).toNat).toInt) σ Rel) : xX p l e room_1 s m #[.ref b] below meth c D vwCl (fun q : Nat => s.heap.size ≤ q) (wL false ad adm cI cJ cZ) FL σ00 (cL false) (sL false) (lw_Z below #[.ref b] s) 4 σ 136 [(0, .ref b), (1, .ref b1), (2, .ref (adm 20)), (3, .int (i32 i))] [] := by
  have hbA : ¬ (fun q : Nat => s.heap.size ≤ q) b := Nat.not_le.mpr hbl
  unfold lawS0 at hw
  refine xr_aload_n C 1 dL_law_136 rfl rfl ?_
  refine xr_aload_n C 0 dL_law_137 rfl rfl ?_
  refine xr_iload_n C 3 dL_law_138 rfl rfl ?_
  refine xr_iconst C dL_law_139 ?_
  refine xr_iadd C dL_law_140 ?_
  refine xr_sld C hX hbl hbA hL (i := (i + 1)) ⟨by omega, by omega⟩ dL_law_141 ?_
  refine xr_callVi C (ci := 4) (q0 := 0) (As := [.int (i32 ((xs (i + 1).toNat).toInt))]) (rest := []) (sp_LN_X ad adm cI cJ cZ) (by decide) (fun _ => trivial) (mX4_type σ ((xs (i + 1).toNat).toInt) _ hw) (cwV 1 C.2.2.2.2.1 gL_law_X4_type rfl rfl rfl (by decide +kernel) ⟨(Nat.le_of_ble_eq_true rfl), (Nat.le_of_ble_eq_true rfl)⟩) rfl rfl rfl (by rw [hb1]; rfl) (Nat.le_of_ble_eq_true rfl) ⟨(Nat.le_of_ble_eq_true rfl), (Nat.le_of_ble_eq_true rfl)⟩ dL_law_142 (fun r1 u1 hw => ?_)
  refine xr_aload_n C 2 dL_law_145 rfl rfl ?_
  refine xr_aload_n C 0 dL_law_146 rfl rfl ?_
  refine xr_iload_n C 3 dL_law_147 rfl rfl ?_
  refine xr_iconst C dL_law_148 ?_
  refine xr_iadd C dL_law_149 ?_
  refine xr_sld C hX hbl hbA hL (i := (i + 1)) ⟨by omega, by omega⟩ dL_law_150 ?_
  refine xr_callVi C (ci := 5) (q0 := 0) (As := [.int (i32 ((xs (i + 1).toNat).toInt))]) (rest := [.int (i32 r1)]) (sp_LN_M ad adm cI cJ cZ) (by decide) (fun _ => trivial) (mX5_type u1 ((xs (i + 1).toNat).toInt) _ hw) (cwV 1 C.2.2.2.2.1 gL_law_X5_type rfl rfl rfl (by decide +kernel) ⟨(Nat.le_of_ble_eq_true rfl), (Nat.le_of_ble_eq_true rfl)⟩) rfl rfl rfl rfl (Nat.le_of_ble_eq_true rfl) ⟨(Nat.le_of_ble_eq_true rfl), (Nat.le_of_ble_eq_true rfl)⟩ dL_law_151 (fun r2 u2 hw => ?_)
  exact xr_same C hw.1 679 dL_law_154 (by decide) (hK false ad u2 hb1 hw.2)
set_option maxHeartbeats 8000000 in
set_option maxRecDepth 200000 in
theorem law_f1 {p : Program} {l : Launch} {e : Env} {s : State} {m : MethodId} {below : List Frame} {meth : Method} {c : Code} {D : va_G} {b L b1 : Nat} {xs : Nat → Int32} {cI cJ cZ : ClassId} {adm : Nat → Nat} {σ00 : xS} (hL : L ≤ 2048) (C : xC True p s m #[.ref b] meth c cL_law 4 RL wsL_law D vwCl (xtys cI cJ cZ) (fun q : Nat => s.heap.size ≤ q)) (hX : va_X b L xs s s.heap) (hbl : b < s.heap.size) {Rel : Bool → xS → Prop} {ad : Nat → Nat} {σ : xS} {i : Int} (hi0 : 0 ≤ i) (hi1 : i + 4 ≤ (L : Int)) (hb1 : ad 0 = b1) (hK : ∀ (P2 : Bool) (ad2 : Nat → Nat) (u : xS), ad2 0 = b1 → Rel P2 u → xX p l e room_1 s m #[.ref b] below meth c D vwCl (fun q : Nat => s.heap.size ≤ q) (wL P2 ad2 adm cI cJ cZ) FL σ00 (cL P2) (sL P2) (lw_Z below #[.ref b] s) 4 u 679 [(0, .ref b), (1, .ref b1), (2, .ref (adm 20)), (3, .int (i32 i))] []) (hw : lawS1 false ((xs (i + 1).toNat).toInt) ((xs (i + 2).toNat).toInt) ((xs (i + 3).toNat).toInt) σ Rel) : xX p l e room_1 s m #[.ref b] below meth c D vwCl (fun q : Nat => s.heap.size ≤ q) (wL false ad adm cI cJ cZ) FL σ00 (cL false) (sL false) (lw_Z below #[.ref b] s) 4 σ 159 [(0, .ref b), (1, .ref b1), (2, .ref (adm 20)), (3, .int (i32 i))] [] := by
  have hbA : ¬ (fun q : Nat => s.heap.size ≤ q) b := Nat.not_le.mpr hbl
  unfold lawS1 at hw
  refine xr_aload_n C 1 dL_law_159 rfl rfl ?_
  refine xr_callVi C (ci := 4) (q0 := 0) (As := []) (rest := []) (sp_LN_X ad adm cI cJ cZ) (by decide) (fun _ => trivial) (mX4_clearText σ _ hw) (cwV 0 C.2.2.2.2.1 gL_law_X4_clearText rfl rfl rfl (by decide +kernel) ⟨(Nat.le_of_ble_eq_true rfl), (Nat.le_of_ble_eq_true rfl)⟩) rfl rfl rfl (by rw [hb1]; rfl) (Nat.le_of_ble_eq_true rfl) ⟨(Nat.le_of_ble_eq_true rfl), (Nat.le_of_ble_eq_true rfl)⟩ dL_law_160 (fun r1 u1 hw => ?_)
  refine xr_aload_n C 2 dL_law_163 rfl rfl ?_
  refine xr_callVi C (ci := 5) (q0 := 0) (As := []) (rest := [.int (i32 r1)]) (sp_LN_M ad adm cI cJ cZ) (by decide) (fun _ => trivial) (mX5_clearText u1 _ hw) (cwV 0 C.2.2.2.2.1 gL_law_X5_clearText rfl rfl rfl (by decide +kernel) ⟨(Nat.le_of_ble_eq_true rfl), (Nat.le_of_ble_eq_true rfl)⟩) rfl rfl rfl rfl (Nat.le_of_ble_eq_true rfl) ⟨(Nat.le_of_ble_eq_true rfl), (Nat.le_of_ble_eq_true rfl)⟩ dL_law_164 (fun r2 u2 hw => ?_)
  exact xr_same C hw.1 679 dL_law_167 (by decide) (hK false ad u2 hb1 hw.2)
set_option maxHeartbeats 8000000 in
set_option maxRecDepth 200000 in
theorem law_f2 {p : Program} {l : Launch} {e : Env} {s : State} {m : MethodId} {below : List Frame} {meth : Method} {c : Code} {D : va_G} {b L b1 : Nat} {xs : Nat → Int32} {cI cJ cZ : ClassId} {adm : Nat → Nat} {σ00 : xS} (hL : L ≤ 2048) (C : xC True p s m #[.ref b] meth c cL_law 4 RL wsL_law D vwCl (xtys cI cJ cZ) (fun q : Nat => s.heap.size ≤ q)) (hX : va_X b L xs s s.heap) (hbl : b < s.heap.size) {Rel : Bool → xS → Prop} {ad : Nat → Nat} {σ : xS} {i : Int} (hi0 : 0 ≤ i) (hi1 : i + 4 ≤ (L : Int)) (hb1 : ad 0 = b1) (hK : ∀ (P2 : Bool) (ad2 : Nat → Nat) (u : xS), ad2 0 = b1 → Rel P2 u → xX p l e room_1 s m #[.ref b] below meth c D vwCl (fun q : Nat => s.heap.size ≤ q) (wL P2 ad2 adm cI cJ cZ) FL σ00 (cL P2) (sL P2) (lw_Z below #[.ref b] s) 4 u 679 [(0, .ref b), (1, .ref b1), (2, .ref (adm 20)), (3, .int (i32 i))] []) (hw : lawS2 false ((xs (i + 1).toNat).toInt) ((xs (i + 2).toNat).toInt) ((xs (i + 3).toNat).toInt) σ Rel) : xX p l e room_1 s m #[.ref b] below meth c D vwCl (fun q : Nat => s.heap.size ≤ q) (wL false ad adm cI cJ cZ) FL σ00 (cL false) (sL false) (lw_Z below #[.ref b] s) 4 σ 172 [(0, .ref b), (1, .ref b1), (2, .ref (adm 20)), (3, .int (i32 i))] [] := by
  have hbA : ¬ (fun q : Nat => s.heap.size ≤ q) b := Nat.not_le.mpr hbl
  unfold lawS2 at hw
  refine xr_aload_n C 1 dL_law_172 rfl rfl ?_
  refine xr_callVi C (ci := 4) (q0 := 0) (As := []) (rest := []) (sp_LN_X ad adm cI cJ cZ) (by decide) (fun _ => trivial) (mX4_fault σ _ hw) (cwV 0 C.2.2.2.2.1 gL_law_X4_fault rfl rfl rfl (by decide +kernel) ⟨(Nat.le_of_ble_eq_true rfl), (Nat.le_of_ble_eq_true rfl)⟩) rfl rfl rfl (by rw [hb1]; rfl) (Nat.le_of_ble_eq_true rfl) ⟨(Nat.le_of_ble_eq_true rfl), (Nat.le_of_ble_eq_true rfl)⟩ dL_law_173 (fun r1 u1 hw => ?_)
  refine xr_aload_n C 2 dL_law_176 rfl rfl ?_
  refine xr_callVi C (ci := 5) (q0 := 0) (As := []) (rest := [.int (i32 r1)]) (sp_LN_M ad adm cI cJ cZ) (by decide) (fun _ => trivial) (mX5_fault u1 _ hw) (cwV 0 C.2.2.2.2.1 gL_law_X5_fault rfl rfl rfl (by decide +kernel) ⟨(Nat.le_of_ble_eq_true rfl), (Nat.le_of_ble_eq_true rfl)⟩) rfl rfl rfl rfl (Nat.le_of_ble_eq_true rfl) ⟨(Nat.le_of_ble_eq_true rfl), (Nat.le_of_ble_eq_true rfl)⟩ dL_law_177 (fun r2 u2 hw => ?_)
  exact xr_same C hw.1 679 dL_law_180 (by decide) (hK false ad u2 hb1 hw.2)
set_option maxHeartbeats 8000000 in
set_option maxRecDepth 200000 in
theorem law_f3 {p : Program} {l : Launch} {e : Env} {s : State} {m : MethodId} {below : List Frame} {meth : Method} {c : Code} {D : va_G} {b L b1 : Nat} {xs : Nat → Int32} {cI cJ cZ : ClassId} {adm : Nat → Nat} {σ00 : xS} (hL : L ≤ 2048) (C : xC True p s m #[.ref b] meth c cL_law 4 RL wsL_law D vwCl (xtys cI cJ cZ) (fun q : Nat => s.heap.size ≤ q)) (hX : va_X b L xs s s.heap) (hbl : b < s.heap.size) {Rel : Bool → xS → Prop} {ad : Nat → Nat} {σ : xS} {i : Int} (hi0 : 0 ≤ i) (hi1 : i + 4 ≤ (L : Int)) (hb1 : ad 0 = b1) (hK : ∀ (P2 : Bool) (ad2 : Nat → Nat) (u : xS), ad2 0 = b1 → Rel P2 u → xX p l e room_1 s m #[.ref b] below meth c D vwCl (fun q : Nat => s.heap.size ≤ q) (wL P2 ad2 adm cI cJ cZ) FL σ00 (cL P2) (sL P2) (lw_Z below #[.ref b] s) 4 u 679 [(0, .ref b), (1, .ref b1), (2, .ref (adm 20)), (3, .int (i32 i))] []) (hw : lawS3 false ((xs (i + 1).toNat).toInt) ((xs (i + 2).toNat).toInt) ((xs (i + 3).toNat).toInt) σ Rel) : xX p l e room_1 s m #[.ref b] below meth c D vwCl (fun q : Nat => s.heap.size ≤ q) (wL false ad adm cI cJ cZ) FL σ00 (cL false) (sL false) (lw_Z below #[.ref b] s) 4 σ 185 [(0, .ref b), (1, .ref b1), (2, .ref (adm 20)), (3, .int (i32 i))] [] := by
  have hbA : ¬ (fun q : Nat => s.heap.size ≤ q) b := Nat.not_le.mpr hbl
  unfold lawS3 at hw
  refine xr_aload_n C 1 dL_law_185 rfl rfl ?_
  refine xr_aload_n C 0 dL_law_186 rfl rfl ?_
  refine xr_iload_n C 3 dL_law_187 rfl rfl ?_
  refine xr_iconst C dL_law_188 ?_
  refine xr_iadd C dL_law_189 ?_
  refine xr_sld C hX hbl hbA hL (i := (i + 1)) ⟨by omega, by omega⟩ dL_law_190 ?_
  refine xr_callVi C (ci := 4) (q0 := 0) (As := [.int (i32 ((xs (i + 1).toNat).toInt))]) (rest := []) (sp_LN_X ad adm cI cJ cZ) (by decide) (fun _ => trivial) (mX4_setGlasses σ ((xs (i + 1).toNat).toInt) _ hw) (cwV 1 C.2.2.2.2.1 gL_law_X4_setGlasses rfl rfl rfl (by decide +kernel) ⟨(Nat.le_of_ble_eq_true rfl), (Nat.le_of_ble_eq_true rfl)⟩) rfl rfl rfl (by rw [hb1]; rfl) (Nat.le_of_ble_eq_true rfl) ⟨(Nat.le_of_ble_eq_true rfl), (Nat.le_of_ble_eq_true rfl)⟩ dL_law_191 (fun r1 u1 hw => ?_)
  refine xr_aload_n C 2 dL_law_194 rfl rfl ?_
  refine xr_aload_n C 0 dL_law_195 rfl rfl ?_
  refine xr_iload_n C 3 dL_law_196 rfl rfl ?_
  refine xr_iconst C dL_law_197 ?_
  refine xr_iadd C dL_law_198 ?_
  refine xr_sld C hX hbl hbA hL (i := (i + 1)) ⟨by omega, by omega⟩ dL_law_199 ?_
  refine xr_callVi C (ci := 5) (q0 := 0) (As := [.int (i32 ((xs (i + 1).toNat).toInt))]) (rest := [.int (i32 r1)]) (sp_LN_M ad adm cI cJ cZ) (by decide) (fun _ => trivial) (mX5_setGlasses u1 ((xs (i + 1).toNat).toInt) _ hw) (cwV 1 C.2.2.2.2.1 gL_law_X5_setGlasses rfl rfl rfl (by decide +kernel) ⟨(Nat.le_of_ble_eq_true rfl), (Nat.le_of_ble_eq_true rfl)⟩) rfl rfl rfl rfl (Nat.le_of_ble_eq_true rfl) ⟨(Nat.le_of_ble_eq_true rfl), (Nat.le_of_ble_eq_true rfl)⟩ dL_law_200 (fun r2 u2 hw => ?_)
  exact xr_same C hw.1 679 dL_law_203 (by decide) (hK false ad u2 hb1 hw.2)
set_option maxHeartbeats 8000000 in
set_option maxRecDepth 200000 in
theorem law_f4 {p : Program} {l : Launch} {e : Env} {s : State} {m : MethodId} {below : List Frame} {meth : Method} {c : Code} {D : va_G} {b L b1 : Nat} {xs : Nat → Int32} {cI cJ cZ : ClassId} {adm : Nat → Nat} {σ00 : xS} (hL : L ≤ 2048) (C : xC True p s m #[.ref b] meth c cL_law 4 RL wsL_law D vwCl (xtys cI cJ cZ) (fun q : Nat => s.heap.size ≤ q)) (hX : va_X b L xs s s.heap) (hbl : b < s.heap.size) {Rel : Bool → xS → Prop} {ad : Nat → Nat} {σ : xS} {i : Int} (hi0 : 0 ≤ i) (hi1 : i + 4 ≤ (L : Int)) (hb1 : ad 0 = b1) (hK : ∀ (P2 : Bool) (ad2 : Nat → Nat) (u : xS), ad2 0 = b1 → Rel P2 u → xX p l e room_1 s m #[.ref b] below meth c D vwCl (fun q : Nat => s.heap.size ≤ q) (wL P2 ad2 adm cI cJ cZ) FL σ00 (cL P2) (sL P2) (lw_Z below #[.ref b] s) 4 u 679 [(0, .ref b), (1, .ref b1), (2, .ref (adm 20)), (3, .int (i32 i))] []) (hw : lawS4 false ((xs (i + 1).toNat).toInt) ((xs (i + 2).toNat).toInt) ((xs (i + 3).toNat).toInt) σ Rel) : xX p l e room_1 s m #[.ref b] below meth c D vwCl (fun q : Nat => s.heap.size ≤ q) (wL false ad adm cI cJ cZ) FL σ00 (cL false) (sL false) (lw_Z below #[.ref b] s) 4 σ 208 [(0, .ref b), (1, .ref b1), (2, .ref (adm 20)), (3, .int (i32 i))] [] := by
  have hbA : ¬ (fun q : Nat => s.heap.size ≤ q) b := Nat.not_le.mpr hbl
  unfold lawS4 at hw
  refine xr_aload_n C 1 dL_law_208 rfl rfl ?_
  refine xr_aload_n C 0 dL_law_209 rfl rfl ?_
  refine xr_iload_n C 3 dL_law_210 rfl rfl ?_
  refine xr_iconst C dL_law_211 ?_
  refine xr_iadd C dL_law_212 ?_
  refine xr_sld C hX hbl hbA hL (i := (i + 1)) ⟨by omega, by omega⟩ dL_law_213 ?_
  refine xr_aload_n C 0 dL_law_214 rfl rfl ?_
  refine xr_iload_n C 3 dL_law_215 rfl rfl ?_
  refine xr_iconst C dL_law_216 ?_
  refine xr_iadd C dL_law_217 ?_
  refine xr_sld C hX hbl hbA hL (i := (i + 2)) ⟨by omega, by omega⟩ dL_law_218 ?_
  refine xr_callVi C (ci := 4) (q0 := 0) (As := [.int (i32 ((xs (i + 1).toNat).toInt)), .int (i32 ((xs (i + 2).toNat).toInt))]) (rest := []) (sp_LN_X ad adm cI cJ cZ) (by decide) (fun _ => trivial) (mX4_setAmount σ ((xs (i + 1).toNat).toInt) ((xs (i + 2).toNat).toInt) _ hw) (cwV 2 C.2.2.2.2.1 gL_law_X4_setAmount rfl rfl rfl (by decide +kernel) ⟨(Nat.le_of_ble_eq_true rfl), (Nat.le_of_ble_eq_true rfl)⟩) rfl rfl rfl (by rw [hb1]; rfl) (Nat.le_of_ble_eq_true rfl) ⟨(Nat.le_of_ble_eq_true rfl), (Nat.le_of_ble_eq_true rfl)⟩ dL_law_219 (fun r1 u1 hw => ?_)
  refine xr_aload_n C 2 dL_law_222 rfl rfl ?_
  refine xr_aload_n C 0 dL_law_223 rfl rfl ?_
  refine xr_iload_n C 3 dL_law_224 rfl rfl ?_
  refine xr_iconst C dL_law_225 ?_
  refine xr_iadd C dL_law_226 ?_
  refine xr_sld C hX hbl hbA hL (i := (i + 1)) ⟨by omega, by omega⟩ dL_law_227 ?_
  refine xr_aload_n C 0 dL_law_228 rfl rfl ?_
  refine xr_iload_n C 3 dL_law_229 rfl rfl ?_
  refine xr_iconst C dL_law_230 ?_
  refine xr_iadd C dL_law_231 ?_
  refine xr_sld C hX hbl hbA hL (i := (i + 2)) ⟨by omega, by omega⟩ dL_law_232 ?_
  refine xr_callVi C (ci := 5) (q0 := 0) (As := [.int (i32 ((xs (i + 1).toNat).toInt)), .int (i32 ((xs (i + 2).toNat).toInt))]) (rest := [.int (i32 r1)]) (sp_LN_M ad adm cI cJ cZ) (by decide) (fun _ => trivial) (mX5_setAmount u1 ((xs (i + 1).toNat).toInt) ((xs (i + 2).toNat).toInt) _ hw) (cwV 2 C.2.2.2.2.1 gL_law_X5_setAmount rfl rfl rfl (by decide +kernel) ⟨(Nat.le_of_ble_eq_true rfl), (Nat.le_of_ble_eq_true rfl)⟩) rfl rfl rfl rfl (Nat.le_of_ble_eq_true rfl) ⟨(Nat.le_of_ble_eq_true rfl), (Nat.le_of_ble_eq_true rfl)⟩ dL_law_233 (fun r2 u2 hw => ?_)
  exact xr_same C hw.1 679 dL_law_236 (by decide) (hK false ad u2 hb1 hw.2)
set_option maxHeartbeats 8000000 in
set_option maxRecDepth 200000 in
theorem law_f5 {p : Program} {l : Launch} {e : Env} {s : State} {m : MethodId} {below : List Frame} {meth : Method} {c : Code} {D : va_G} {b L b1 : Nat} {xs : Nat → Int32} {cI cJ cZ : ClassId} {adm : Nat → Nat} {σ00 : xS} (hL : L ≤ 2048) (C : xC True p s m #[.ref b] meth c cL_law 4 RL wsL_law D vwCl (xtys cI cJ cZ) (fun q : Nat => s.heap.size ≤ q)) (hX : va_X b L xs s s.heap) (hbl : b < s.heap.size) {Rel : Bool → xS → Prop} {ad : Nat → Nat} {σ : xS} {i : Int} (hi0 : 0 ≤ i) (hi1 : i + 4 ≤ (L : Int)) (hb1 : ad 0 = b1) (hK : ∀ (P2 : Bool) (ad2 : Nat → Nat) (u : xS), ad2 0 = b1 → Rel P2 u → xX p l e room_1 s m #[.ref b] below meth c D vwCl (fun q : Nat => s.heap.size ≤ q) (wL P2 ad2 adm cI cJ cZ) FL σ00 (cL P2) (sL P2) (lw_Z below #[.ref b] s) 4 u 679 [(0, .ref b), (1, .ref b1), (2, .ref (adm 20)), (3, .int (i32 i))] []) (hw : lawS5 false ((xs (i + 1).toNat).toInt) ((xs (i + 2).toNat).toInt) ((xs (i + 3).toNat).toInt) σ Rel) : xX p l e room_1 s m #[.ref b] below meth c D vwCl (fun q : Nat => s.heap.size ≤ q) (wL false ad adm cI cJ cZ) FL σ00 (cL false) (sL false) (lw_Z below #[.ref b] s) 4 σ 241 [(0, .ref b), (1, .ref b1), (2, .ref (adm 20)), (3, .int (i32 i))] [] := by
  have hbA : ¬ (fun q : Nat => s.heap.size ≤ q) b := Nat.not_le.mpr hbl
  unfold lawS5 at hw
  refine xr_aload_n C 1 dL_law_241 rfl rfl ?_
  refine xr_aload_n C 0 dL_law_242 rfl rfl ?_
  refine xr_iload_n C 3 dL_law_243 rfl rfl ?_
  refine xr_iconst C dL_law_244 ?_
  refine xr_iadd C dL_law_245 ?_
  refine xr_sld C hX hbl hbA hL (i := (i + 1)) ⟨by omega, by omega⟩ dL_law_246 ?_
  refine xr_aload_n C 0 dL_law_247 rfl rfl ?_
  refine xr_iload_n C 3 dL_law_248 rfl rfl ?_
  refine xr_iconst C dL_law_249 ?_
  refine xr_iadd C dL_law_250 ?_
  refine xr_sld C hX hbl hbA hL (i := (i + 2)) ⟨by omega, by omega⟩ dL_law_251 ?_
  refine xr_aload_n C 0 dL_law_252 rfl rfl ?_
  refine xr_iload_n C 3 dL_law_253 rfl rfl ?_
  refine xr_iconst C dL_law_254 ?_
  refine xr_iadd C dL_law_255 ?_
  refine xr_sld C hX hbl hbA hL (i := (i + 3)) ⟨by omega, by omega⟩ dL_law_256 ?_
  refine xr_callVi C (ci := 4) (q0 := 0) (As := [.int (i32 ((xs (i + 1).toNat).toInt)), .int (i32 ((xs (i + 2).toNat).toInt)), .int (i32 ((xs (i + 3).toNat).toInt))]) (rest := []) (sp_LN_X ad adm cI cJ cZ) (by decide) (fun _ => trivial) (mX4_setKind σ ((xs (i + 1).toNat).toInt) ((xs (i + 2).toNat).toInt) ((xs (i + 3).toNat).toInt) _ hw) (cwV 3 C.2.2.2.2.1 gL_law_X4_setKind rfl rfl rfl (by decide +kernel) ⟨(Nat.le_of_ble_eq_true rfl), (Nat.le_of_ble_eq_true rfl)⟩) rfl rfl rfl (by rw [hb1]; rfl) (Nat.le_of_ble_eq_true rfl) ⟨(Nat.le_of_ble_eq_true rfl), (Nat.le_of_ble_eq_true rfl)⟩ dL_law_257 (fun r1 u1 hw => ?_)
  refine xr_aload_n C 2 dL_law_260 rfl rfl ?_
  refine xr_aload_n C 0 dL_law_261 rfl rfl ?_
  refine xr_iload_n C 3 dL_law_262 rfl rfl ?_
  refine xr_iconst C dL_law_263 ?_
  refine xr_iadd C dL_law_264 ?_
  refine xr_sld C hX hbl hbA hL (i := (i + 1)) ⟨by omega, by omega⟩ dL_law_265 ?_
  refine xr_aload_n C 0 dL_law_266 rfl rfl ?_
  refine xr_iload_n C 3 dL_law_267 rfl rfl ?_
  refine xr_iconst C dL_law_268 ?_
  refine xr_iadd C dL_law_269 ?_
  refine xr_sld C hX hbl hbA hL (i := (i + 2)) ⟨by omega, by omega⟩ dL_law_270 ?_
  refine xr_aload_n C 0 dL_law_271 rfl rfl ?_
  refine xr_iload_n C 3 dL_law_272 rfl rfl ?_
  refine xr_iconst C dL_law_273 ?_
  refine xr_iadd C dL_law_274 ?_
  refine xr_sld C hX hbl hbA hL (i := (i + 3)) ⟨by omega, by omega⟩ dL_law_275 ?_
  refine xr_callVi C (ci := 5) (q0 := 0) (As := [.int (i32 ((xs (i + 1).toNat).toInt)), .int (i32 ((xs (i + 2).toNat).toInt)), .int (i32 ((xs (i + 3).toNat).toInt))]) (rest := [.int (i32 r1)]) (sp_LN_M ad adm cI cJ cZ) (by decide) (fun _ => trivial) (mX5_setKind u1 ((xs (i + 1).toNat).toInt) ((xs (i + 2).toNat).toInt) ((xs (i + 3).toNat).toInt) _ hw) (cwV 3 C.2.2.2.2.1 gL_law_X5_setKind rfl rfl rfl (by decide +kernel) ⟨(Nat.le_of_ble_eq_true rfl), (Nat.le_of_ble_eq_true rfl)⟩) rfl rfl rfl rfl (Nat.le_of_ble_eq_true rfl) ⟨(Nat.le_of_ble_eq_true rfl), (Nat.le_of_ble_eq_true rfl)⟩ dL_law_276 (fun r2 u2 hw => ?_)
  exact xr_same C hw.1 679 dL_law_279 (by decide) (hK false ad u2 hb1 hw.2)
set_option maxHeartbeats 8000000 in
set_option maxRecDepth 200000 in
theorem law_f6 {p : Program} {l : Launch} {e : Env} {s : State} {m : MethodId} {below : List Frame} {meth : Method} {c : Code} {D : va_G} {b L b1 : Nat} {xs : Nat → Int32} {cI cJ cZ : ClassId} {adm : Nat → Nat} {σ00 : xS} (hL : L ≤ 2048) (C : xC True p s m #[.ref b] meth c cL_law 4 RL wsL_law D vwCl (xtys cI cJ cZ) (fun q : Nat => s.heap.size ≤ q)) (hX : va_X b L xs s s.heap) (hbl : b < s.heap.size) {Rel : Bool → xS → Prop} {ad : Nat → Nat} {σ : xS} {i : Int} (hi0 : 0 ≤ i) (hi1 : i + 4 ≤ (L : Int)) (hb1 : ad 0 = b1) (hK : ∀ (P2 : Bool) (ad2 : Nat → Nat) (u : xS), ad2 0 = b1 → Rel P2 u → xX p l e room_1 s m #[.ref b] below meth c D vwCl (fun q : Nat => s.heap.size ≤ q) (wL P2 ad2 adm cI cJ cZ) FL σ00 (cL P2) (sL P2) (lw_Z below #[.ref b] s) 4 u 679 [(0, .ref b), (1, .ref b1), (2, .ref (adm 20)), (3, .int (i32 i))] []) (hw : lawS6 false ((xs (i + 1).toNat).toInt) ((xs (i + 2).toNat).toInt) ((xs (i + 3).toNat).toInt) σ Rel) : xX p l e room_1 s m #[.ref b] below meth c D vwCl (fun q : Nat => s.heap.size ≤ q) (wL false ad adm cI cJ cZ) FL σ00 (cL false) (sL false) (lw_Z below #[.ref b] s) 4 σ 284 [(0, .ref b), (1, .ref b1), (2, .ref (adm 20)), (3, .int (i32 i))] [] := by
  have hbA : ¬ (fun q : Nat => s.heap.size ≤ q) b := Nat.not_le.mpr hbl
  unfold lawS6 at hw
  refine xr_aload_n C 1 dL_law_284 rfl rfl ?_
  refine xr_aload_n C 0 dL_law_285 rfl rfl ?_
  refine xr_iload_n C 3 dL_law_286 rfl rfl ?_
  refine xr_iconst C dL_law_287 ?_
  refine xr_iadd C dL_law_288 ?_
  refine xr_sld C hX hbl hbA hL (i := (i + 1)) ⟨by omega, by omega⟩ dL_law_289 ?_
  refine xr_aload_n C 0 dL_law_290 rfl rfl ?_
  refine xr_iload_n C 3 dL_law_291 rfl rfl ?_
  refine xr_iconst C dL_law_292 ?_
  refine xr_iadd C dL_law_293 ?_
  refine xr_sld C hX hbl hbA hL (i := (i + 2)) ⟨by omega, by omega⟩ dL_law_294 ?_
  refine xr_callVi C (ci := 4) (q0 := 0) (As := [.int (i32 ((xs (i + 1).toNat).toInt)), .int (i32 ((xs (i + 2).toNat).toInt))]) (rest := []) (sp_LN_X ad adm cI cJ cZ) (by decide) (fun _ => trivial) (mX4_fix σ ((xs (i + 1).toNat).toInt) ((xs (i + 2).toNat).toInt) _ hw) (cwV 2 C.2.2.2.2.1 gL_law_X4_fix rfl rfl rfl (by decide +kernel) ⟨(Nat.le_of_ble_eq_true rfl), (Nat.le_of_ble_eq_true rfl)⟩) rfl rfl rfl (by rw [hb1]; rfl) (Nat.le_of_ble_eq_true rfl) ⟨(Nat.le_of_ble_eq_true rfl), (Nat.le_of_ble_eq_true rfl)⟩ dL_law_295 (fun r1 u1 hw => ?_)
  refine xr_aload_n C 2 dL_law_298 rfl rfl ?_
  refine xr_aload_n C 0 dL_law_299 rfl rfl ?_
  refine xr_iload_n C 3 dL_law_300 rfl rfl ?_
  refine xr_iconst C dL_law_301 ?_
  refine xr_iadd C dL_law_302 ?_
  refine xr_sld C hX hbl hbA hL (i := (i + 1)) ⟨by omega, by omega⟩ dL_law_303 ?_
  refine xr_aload_n C 0 dL_law_304 rfl rfl ?_
  refine xr_iload_n C 3 dL_law_305 rfl rfl ?_
  refine xr_iconst C dL_law_306 ?_
  refine xr_iadd C dL_law_307 ?_
  refine xr_sld C hX hbl hbA hL (i := (i + 2)) ⟨by omega, by omega⟩ dL_law_308 ?_
  refine xr_callVi C (ci := 5) (q0 := 0) (As := [.int (i32 ((xs (i + 1).toNat).toInt)), .int (i32 ((xs (i + 2).toNat).toInt))]) (rest := [.int (i32 r1)]) (sp_LN_M ad adm cI cJ cZ) (by decide) (fun _ => trivial) (mX5_fix u1 ((xs (i + 1).toNat).toInt) ((xs (i + 2).toNat).toInt) _ hw) (cwV 2 C.2.2.2.2.1 gL_law_X5_fix rfl rfl rfl (by decide +kernel) ⟨(Nat.le_of_ble_eq_true rfl), (Nat.le_of_ble_eq_true rfl)⟩) rfl rfl rfl rfl (Nat.le_of_ble_eq_true rfl) ⟨(Nat.le_of_ble_eq_true rfl), (Nat.le_of_ble_eq_true rfl)⟩ dL_law_309 (fun r2 u2 hw => ?_)
  exact xr_same C hw.1 679 dL_law_312 (by decide) (hK false ad u2 hb1 hw.2)
set_option maxHeartbeats 8000000 in
set_option maxRecDepth 200000 in
theorem law_f7 {p : Program} {l : Launch} {e : Env} {s : State} {m : MethodId} {below : List Frame} {meth : Method} {c : Code} {D : va_G} {b L b1 : Nat} {xs : Nat → Int32} {cI cJ cZ : ClassId} {adm : Nat → Nat} {σ00 : xS} (hL : L ≤ 2048) (C : xC True p s m #[.ref b] meth c cL_law 4 RL wsL_law D vwCl (xtys cI cJ cZ) (fun q : Nat => s.heap.size ≤ q)) (hX : va_X b L xs s s.heap) (hbl : b < s.heap.size) {Rel : Bool → xS → Prop} {ad : Nat → Nat} {σ : xS} {i : Int} (hi0 : 0 ≤ i) (hi1 : i + 4 ≤ (L : Int)) (hb1 : ad 0 = b1) (hK : ∀ (P2 : Bool) (ad2 : Nat → Nat) (u : xS), ad2 0 = b1 → Rel P2 u → xX p l e room_1 s m #[.ref b] below meth c D vwCl (fun q : Nat => s.heap.size ≤ q) (wL P2 ad2 adm cI cJ cZ) FL σ00 (cL P2) (sL P2) (lw_Z below #[.ref b] s) 4 u 679 [(0, .ref b), (1, .ref b1), (2, .ref (adm 20)), (3, .int (i32 i))] []) (hw : lawS7 false ((xs (i + 1).toNat).toInt) ((xs (i + 2).toNat).toInt) ((xs (i + 3).toNat).toInt) σ Rel) : xX p l e room_1 s m #[.ref b] below meth c D vwCl (fun q : Nat => s.heap.size ≤ q) (wL false ad adm cI cJ cZ) FL σ00 (cL false) (sL false) (lw_Z below #[.ref b] s) 4 σ 317 [(0, .ref b), (1, .ref b1), (2, .ref (adm 20)), (3, .int (i32 i))] [] := by
  have hbA : ¬ (fun q : Nat => s.heap.size ≤ q) b := Nat.not_le.mpr hbl
  unfold lawS7 at hw
  refine xr_aload_n C 1 dL_law_317 rfl rfl ?_
  refine xr_aload_n C 0 dL_law_318 rfl rfl ?_
  refine xr_iload_n C 3 dL_law_319 rfl rfl ?_
  refine xr_iconst C dL_law_320 ?_
  refine xr_iadd C dL_law_321 ?_
  refine xr_sld C hX hbl hbA hL (i := (i + 1)) ⟨by omega, by omega⟩ dL_law_322 ?_
  refine xr_callVi C (ci := 4) (q0 := 0) (As := [.int (i32 ((xs (i + 1).toNat).toInt))]) (rest := []) (sp_LN_X ad adm cI cJ cZ) (by decide) (fun _ => trivial) (mX4_loosen σ ((xs (i + 1).toNat).toInt) _ hw) (cwV 1 C.2.2.2.2.1 gL_law_X4_loosen rfl rfl rfl (by decide +kernel) ⟨(Nat.le_of_ble_eq_true rfl), (Nat.le_of_ble_eq_true rfl)⟩) rfl rfl rfl (by rw [hb1]; rfl) (Nat.le_of_ble_eq_true rfl) ⟨(Nat.le_of_ble_eq_true rfl), (Nat.le_of_ble_eq_true rfl)⟩ dL_law_323 (fun r1 u1 hw => ?_)
  refine xr_aload_n C 2 dL_law_326 rfl rfl ?_
  refine xr_aload_n C 0 dL_law_327 rfl rfl ?_
  refine xr_iload_n C 3 dL_law_328 rfl rfl ?_
  refine xr_iconst C dL_law_329 ?_
  refine xr_iadd C dL_law_330 ?_
  refine xr_sld C hX hbl hbA hL (i := (i + 1)) ⟨by omega, by omega⟩ dL_law_331 ?_
  refine xr_callVi C (ci := 5) (q0 := 0) (As := [.int (i32 ((xs (i + 1).toNat).toInt))]) (rest := [.int (i32 r1)]) (sp_LN_M ad adm cI cJ cZ) (by decide) (fun _ => trivial) (mX5_loosen u1 ((xs (i + 1).toNat).toInt) _ hw) (cwV 1 C.2.2.2.2.1 gL_law_X5_loosen rfl rfl rfl (by decide +kernel) ⟨(Nat.le_of_ble_eq_true rfl), (Nat.le_of_ble_eq_true rfl)⟩) rfl rfl rfl rfl (Nat.le_of_ble_eq_true rfl) ⟨(Nat.le_of_ble_eq_true rfl), (Nat.le_of_ble_eq_true rfl)⟩ dL_law_332 (fun r2 u2 hw => ?_)
  exact xr_same C hw.1 679 dL_law_335 (by decide) (hK false ad u2 hb1 hw.2)
set_option maxHeartbeats 8000000 in
set_option maxRecDepth 200000 in
theorem law_f8 {p : Program} {l : Launch} {e : Env} {s : State} {m : MethodId} {below : List Frame} {meth : Method} {c : Code} {D : va_G} {b L b1 : Nat} {xs : Nat → Int32} {cI cJ cZ : ClassId} {adm : Nat → Nat} {σ00 : xS} (hL : L ≤ 2048) (C : xC True p s m #[.ref b] meth c cL_law 4 RL wsL_law D vwCl (xtys cI cJ cZ) (fun q : Nat => s.heap.size ≤ q)) (hX : va_X b L xs s s.heap) (hbl : b < s.heap.size) {Rel : Bool → xS → Prop} {ad : Nat → Nat} {σ : xS} {i : Int} (hi0 : 0 ≤ i) (hi1 : i + 4 ≤ (L : Int)) (hb1 : ad 0 = b1) (hK : ∀ (P2 : Bool) (ad2 : Nat → Nat) (u : xS), ad2 0 = b1 → Rel P2 u → xX p l e room_1 s m #[.ref b] below meth c D vwCl (fun q : Nat => s.heap.size ≤ q) (wL P2 ad2 adm cI cJ cZ) FL σ00 (cL P2) (sL P2) (lw_Z below #[.ref b] s) 4 u 679 [(0, .ref b), (1, .ref b1), (2, .ref (adm 20)), (3, .int (i32 i))] []) (hw : lawS8 false ((xs (i + 1).toNat).toInt) ((xs (i + 2).toNat).toInt) ((xs (i + 3).toNat).toInt) σ Rel) : xX p l e room_1 s m #[.ref b] below meth c D vwCl (fun q : Nat => s.heap.size ≤ q) (wL false ad adm cI cJ cZ) FL σ00 (cL false) (sL false) (lw_Z below #[.ref b] s) 4 σ 340 [(0, .ref b), (1, .ref b1), (2, .ref (adm 20)), (3, .int (i32 i))] [] := by
  have hbA : ¬ (fun q : Nat => s.heap.size ≤ q) b := Nat.not_le.mpr hbl
  unfold lawS8 at hw
  refine xr_aload_n C 1 dL_law_340 rfl rfl ?_
  refine xr_aload_n C 0 dL_law_341 rfl rfl ?_
  refine xr_iload_n C 3 dL_law_342 rfl rfl ?_
  refine xr_iconst C dL_law_343 ?_
  refine xr_iadd C dL_law_344 ?_
  refine xr_sld C hX hbl hbA hL (i := (i + 1)) ⟨by omega, by omega⟩ dL_law_345 ?_
  refine xr_callVi C (ci := 4) (q0 := 0) (As := [.int (i32 ((xs (i + 1).toNat).toInt))]) (rest := []) (sp_LN_X ad adm cI cJ cZ) (by decide) (fun _ => trivial) (mX4_turn σ ((xs (i + 1).toNat).toInt) _ hw) (cwV 1 C.2.2.2.2.1 gL_law_X4_turn rfl rfl rfl (by decide +kernel) ⟨(Nat.le_of_ble_eq_true rfl), (Nat.le_of_ble_eq_true rfl)⟩) rfl rfl rfl (by rw [hb1]; rfl) (Nat.le_of_ble_eq_true rfl) ⟨(Nat.le_of_ble_eq_true rfl), (Nat.le_of_ble_eq_true rfl)⟩ dL_law_346 (fun r1 u1 hw => ?_)
  refine xr_aload_n C 2 dL_law_349 rfl rfl ?_
  refine xr_aload_n C 0 dL_law_350 rfl rfl ?_
  refine xr_iload_n C 3 dL_law_351 rfl rfl ?_
  refine xr_iconst C dL_law_352 ?_
  refine xr_iadd C dL_law_353 ?_
  refine xr_sld C hX hbl hbA hL (i := (i + 1)) ⟨by omega, by omega⟩ dL_law_354 ?_
  refine xr_callVi C (ci := 5) (q0 := 0) (As := [.int (i32 ((xs (i + 1).toNat).toInt))]) (rest := [.int (i32 r1)]) (sp_LN_M ad adm cI cJ cZ) (by decide) (fun _ => trivial) (mX5_turn u1 ((xs (i + 1).toNat).toInt) _ hw) (cwV 1 C.2.2.2.2.1 gL_law_X5_turn rfl rfl rfl (by decide +kernel) ⟨(Nat.le_of_ble_eq_true rfl), (Nat.le_of_ble_eq_true rfl)⟩) rfl rfl rfl rfl (Nat.le_of_ble_eq_true rfl) ⟨(Nat.le_of_ble_eq_true rfl), (Nat.le_of_ble_eq_true rfl)⟩ dL_law_355 (fun r2 u2 hw => ?_)
  exact xr_same C hw.1 679 dL_law_358 (by decide) (hK false ad u2 hb1 hw.2)
set_option maxHeartbeats 8000000 in
set_option maxRecDepth 200000 in
theorem law_f9 {p : Program} {l : Launch} {e : Env} {s : State} {m : MethodId} {below : List Frame} {meth : Method} {c : Code} {D : va_G} {b L b1 : Nat} {xs : Nat → Int32} {cI cJ cZ : ClassId} {adm : Nat → Nat} {σ00 : xS} (hL : L ≤ 2048) (C : xC True p s m #[.ref b] meth c cL_law 4 RL wsL_law D vwCl (xtys cI cJ cZ) (fun q : Nat => s.heap.size ≤ q)) (hX : va_X b L xs s s.heap) (hbl : b < s.heap.size) {Rel : Bool → xS → Prop} {ad : Nat → Nat} {σ : xS} {i : Int} (hi0 : 0 ≤ i) (hi1 : i + 4 ≤ (L : Int)) (hb1 : ad 0 = b1) (hK : ∀ (P2 : Bool) (ad2 : Nat → Nat) (u : xS), ad2 0 = b1 → Rel P2 u → xX p l e room_1 s m #[.ref b] below meth c D vwCl (fun q : Nat => s.heap.size ≤ q) (wL P2 ad2 adm cI cJ cZ) FL σ00 (cL P2) (sL P2) (lw_Z below #[.ref b] s) 4 u 679 [(0, .ref b), (1, .ref b1), (2, .ref (adm 20)), (3, .int (i32 i))] []) (hw : lawS9 false ((xs (i + 1).toNat).toInt) ((xs (i + 2).toNat).toInt) ((xs (i + 3).toNat).toInt) σ Rel) : xX p l e room_1 s m #[.ref b] below meth c D vwCl (fun q : Nat => s.heap.size ≤ q) (wL false ad adm cI cJ cZ) FL σ00 (cL false) (sL false) (lw_Z below #[.ref b] s) 4 σ 363 [(0, .ref b), (1, .ref b1), (2, .ref (adm 20)), (3, .int (i32 i))] [] := by
  have hbA : ¬ (fun q : Nat => s.heap.size ≤ q) b := Nat.not_le.mpr hbl
  unfold lawS9 at hw
  refine xr_aload_n C 1 dL_law_363 rfl rfl ?_
  refine xr_aload_n C 0 dL_law_364 rfl rfl ?_
  refine xr_iload_n C 3 dL_law_365 rfl rfl ?_
  refine xr_iconst C dL_law_366 ?_
  refine xr_iadd C dL_law_367 ?_
  refine xr_sld C hX hbl hbA hL (i := (i + 1)) ⟨by omega, by omega⟩ dL_law_368 ?_
  refine xr_callVi C (ci := 4) (q0 := 0) (As := [.int (i32 ((xs (i + 1).toNat).toInt))]) (rest := []) (sp_LN_X ad adm cI cJ cZ) (by decide) (fun _ => trivial) (mX4_tap σ ((xs (i + 1).toNat).toInt) _ hw) (cwV 1 C.2.2.2.2.1 gL_law_X4_tap rfl rfl rfl (by decide +kernel) ⟨(Nat.le_of_ble_eq_true rfl), (Nat.le_of_ble_eq_true rfl)⟩) rfl rfl rfl (by rw [hb1]; rfl) (Nat.le_of_ble_eq_true rfl) ⟨(Nat.le_of_ble_eq_true rfl), (Nat.le_of_ble_eq_true rfl)⟩ dL_law_369 (fun r1 u1 hw => ?_)
  refine xr_aload_n C 2 dL_law_372 rfl rfl ?_
  refine xr_aload_n C 0 dL_law_373 rfl rfl ?_
  refine xr_iload_n C 3 dL_law_374 rfl rfl ?_
  refine xr_iconst C dL_law_375 ?_
  refine xr_iadd C dL_law_376 ?_
  refine xr_sld C hX hbl hbA hL (i := (i + 1)) ⟨by omega, by omega⟩ dL_law_377 ?_
  refine xr_callVi C (ci := 5) (q0 := 0) (As := [.int (i32 ((xs (i + 1).toNat).toInt))]) (rest := [.int (i32 r1)]) (sp_LN_M ad adm cI cJ cZ) (by decide) (fun _ => trivial) (mX5_tap u1 ((xs (i + 1).toNat).toInt) _ hw) (cwV 1 C.2.2.2.2.1 gL_law_X5_tap rfl rfl rfl (by decide +kernel) ⟨(Nat.le_of_ble_eq_true rfl), (Nat.le_of_ble_eq_true rfl)⟩) rfl rfl rfl rfl (Nat.le_of_ble_eq_true rfl) ⟨(Nat.le_of_ble_eq_true rfl), (Nat.le_of_ble_eq_true rfl)⟩ dL_law_378 (fun r2 u2 hw => ?_)
  exact xr_same C hw.1 679 dL_law_381 (by decide) (hK false ad u2 hb1 hw.2)
set_option maxHeartbeats 8000000 in
set_option maxRecDepth 200000 in
theorem law_f10 {p : Program} {l : Launch} {e : Env} {s : State} {m : MethodId} {below : List Frame} {meth : Method} {c : Code} {D : va_G} {b L b1 : Nat} {xs : Nat → Int32} {cI cJ cZ : ClassId} {adm : Nat → Nat} {σ00 : xS} (hL : L ≤ 2048) (C : xC True p s m #[.ref b] meth c cL_law 4 RL wsL_law D vwCl (xtys cI cJ cZ) (fun q : Nat => s.heap.size ≤ q)) (hX : va_X b L xs s s.heap) (hbl : b < s.heap.size) {Rel : Bool → xS → Prop} {ad : Nat → Nat} {σ : xS} {i : Int} (hi0 : 0 ≤ i) (hi1 : i + 4 ≤ (L : Int)) (hb1 : ad 0 = b1) (hK : ∀ (P2 : Bool) (ad2 : Nat → Nat) (u : xS), ad2 0 = b1 → Rel P2 u → xX p l e room_1 s m #[.ref b] below meth c D vwCl (fun q : Nat => s.heap.size ≤ q) (wL P2 ad2 adm cI cJ cZ) FL σ00 (cL P2) (sL P2) (lw_Z below #[.ref b] s) 4 u 679 [(0, .ref b), (1, .ref b1), (2, .ref (adm 20)), (3, .int (i32 i))] []) (hw : lawS10 false ((xs (i + 1).toNat).toInt) ((xs (i + 2).toNat).toInt) ((xs (i + 3).toNat).toInt) σ Rel) : xX p l e room_1 s m #[.ref b] below meth c D vwCl (fun q : Nat => s.heap.size ≤ q) (wL false ad adm cI cJ cZ) FL σ00 (cL false) (sL false) (lw_Z below #[.ref b] s) 4 σ 386 [(0, .ref b), (1, .ref b1), (2, .ref (adm 20)), (3, .int (i32 i))] [] := by
  have hbA : ¬ (fun q : Nat => s.heap.size ≤ q) b := Nat.not_le.mpr hbl
  unfold lawS10 at hw
  refine xr_aload_n C 1 dL_law_386 rfl rfl ?_
  refine xr_aload_n C 0 dL_law_387 rfl rfl ?_
  refine xr_iload_n C 3 dL_law_388 rfl rfl ?_
  refine xr_iconst C dL_law_389 ?_
  refine xr_iadd C dL_law_390 ?_
  refine xr_sld C hX hbl hbA hL (i := (i + 1)) ⟨by omega, by omega⟩ dL_law_391 ?_
  refine xr_callVi C (ci := 4) (q0 := 0) (As := [.int (i32 ((xs (i + 1).toNat).toInt))]) (rest := []) (sp_LN_X ad adm cI cJ cZ) (by decide) (fun _ => trivial) (mX4_pass σ ((xs (i + 1).toNat).toInt) _ hw) (cwV 1 C.2.2.2.2.1 gL_law_X4_pass rfl rfl rfl (by decide +kernel) ⟨(Nat.le_of_ble_eq_true rfl), (Nat.le_of_ble_eq_true rfl)⟩) rfl rfl rfl (by rw [hb1]; rfl) (Nat.le_of_ble_eq_true rfl) ⟨(Nat.le_of_ble_eq_true rfl), (Nat.le_of_ble_eq_true rfl)⟩ dL_law_392 (fun r1 u1 hw => ?_)
  refine xr_aload_n C 2 dL_law_395 rfl rfl ?_
  refine xr_aload_n C 0 dL_law_396 rfl rfl ?_
  refine xr_iload_n C 3 dL_law_397 rfl rfl ?_
  refine xr_iconst C dL_law_398 ?_
  refine xr_iadd C dL_law_399 ?_
  refine xr_sld C hX hbl hbA hL (i := (i + 1)) ⟨by omega, by omega⟩ dL_law_400 ?_
  refine xr_callVi C (ci := 5) (q0 := 0) (As := [.int (i32 ((xs (i + 1).toNat).toInt))]) (rest := [.int (i32 r1)]) (sp_LN_M ad adm cI cJ cZ) (by decide) (fun _ => trivial) (mX5_pass u1 ((xs (i + 1).toNat).toInt) _ hw) (cwV 1 C.2.2.2.2.1 gL_law_X5_pass rfl rfl rfl (by decide +kernel) ⟨(Nat.le_of_ble_eq_true rfl), (Nat.le_of_ble_eq_true rfl)⟩) rfl rfl rfl rfl (Nat.le_of_ble_eq_true rfl) ⟨(Nat.le_of_ble_eq_true rfl), (Nat.le_of_ble_eq_true rfl)⟩ dL_law_401 (fun r2 u2 hw => ?_)
  exact xr_same C hw.1 679 dL_law_404 (by decide) (hK false ad u2 hb1 hw.2)
set_option maxHeartbeats 8000000 in
set_option maxRecDepth 200000 in
theorem law_f11 {p : Program} {l : Launch} {e : Env} {s : State} {m : MethodId} {below : List Frame} {meth : Method} {c : Code} {D : va_G} {b L b1 : Nat} {xs : Nat → Int32} {cI cJ cZ : ClassId} {adm : Nat → Nat} {σ00 : xS} (hL : L ≤ 2048) (C : xC True p s m #[.ref b] meth c cL_law 4 RL wsL_law D vwCl (xtys cI cJ cZ) (fun q : Nat => s.heap.size ≤ q)) (hX : va_X b L xs s s.heap) (hbl : b < s.heap.size) {Rel : Bool → xS → Prop} {ad : Nat → Nat} {σ : xS} {i : Int} (hi0 : 0 ≤ i) (hi1 : i + 4 ≤ (L : Int)) (hb1 : ad 0 = b1) (hK : ∀ (P2 : Bool) (ad2 : Nat → Nat) (u : xS), ad2 0 = b1 → Rel P2 u → xX p l e room_1 s m #[.ref b] below meth c D vwCl (fun q : Nat => s.heap.size ≤ q) (wL P2 ad2 adm cI cJ cZ) FL σ00 (cL P2) (sL P2) (lw_Z below #[.ref b] s) 4 u 679 [(0, .ref b), (1, .ref b1), (2, .ref (adm 20)), (3, .int (i32 i))] []) (hw : lawS11 false ((xs (i + 1).toNat).toInt) ((xs (i + 2).toNat).toInt) ((xs (i + 3).toNat).toInt) σ Rel) : xX p l e room_1 s m #[.ref b] below meth c D vwCl (fun q : Nat => s.heap.size ≤ q) (wL false ad adm cI cJ cZ) FL σ00 (cL false) (sL false) (lw_Z below #[.ref b] s) 4 σ 409 [(0, .ref b), (1, .ref b1), (2, .ref (adm 20)), (3, .int (i32 i))] [] := by
  have hbA : ¬ (fun q : Nat => s.heap.size ≤ q) b := Nat.not_le.mpr hbl
  unfold lawS11 at hw
  refine xr_aload_n C 1 dL_law_409 rfl rfl ?_
  refine xr_callVi C (ci := 4) (q0 := 0) (As := []) (rest := []) (sp_LN_X ad adm cI cJ cZ) (by decide) (fun _ => trivial) (mX4_await σ _ hw) (cwV 0 C.2.2.2.2.1 gL_law_X4_await rfl rfl rfl (by decide +kernel) ⟨(Nat.le_of_ble_eq_true rfl), (Nat.le_of_ble_eq_true rfl)⟩) rfl rfl rfl (by rw [hb1]; rfl) (Nat.le_of_ble_eq_true rfl) ⟨(Nat.le_of_ble_eq_true rfl), (Nat.le_of_ble_eq_true rfl)⟩ dL_law_410 (fun r1 u1 hw => ?_)
  refine xr_aload_n C 2 dL_law_413 rfl rfl ?_
  refine xr_callVi C (ci := 5) (q0 := 0) (As := []) (rest := [.int (i32 r1)]) (sp_LN_M ad adm cI cJ cZ) (by decide) (fun _ => trivial) (mX5_await u1 _ hw) (cwV 0 C.2.2.2.2.1 gL_law_X5_await rfl rfl rfl (by decide +kernel) ⟨(Nat.le_of_ble_eq_true rfl), (Nat.le_of_ble_eq_true rfl)⟩) rfl rfl rfl rfl (Nat.le_of_ble_eq_true rfl) ⟨(Nat.le_of_ble_eq_true rfl), (Nat.le_of_ble_eq_true rfl)⟩ dL_law_414 (fun r2 u2 hw => ?_)
  exact xr_same C hw.1 679 dL_law_417 (by decide) (hK false ad u2 hb1 hw.2)
set_option maxHeartbeats 8000000 in
set_option maxRecDepth 200000 in
theorem law_f12 {p : Program} {l : Launch} {e : Env} {s : State} {m : MethodId} {below : List Frame} {meth : Method} {c : Code} {D : va_G} {b L b1 : Nat} {xs : Nat → Int32} {cI cJ cZ : ClassId} {adm : Nat → Nat} {σ00 : xS} (hL : L ≤ 2048) (C : xC True p s m #[.ref b] meth c cL_law 4 RL wsL_law D vwCl (xtys cI cJ cZ) (fun q : Nat => s.heap.size ≤ q)) (hX : va_X b L xs s s.heap) (hbl : b < s.heap.size) {Rel : Bool → xS → Prop} {ad : Nat → Nat} {σ : xS} {i : Int} (hi0 : 0 ≤ i) (hi1 : i + 4 ≤ (L : Int)) (hb1 : ad 0 = b1) (hK : ∀ (P2 : Bool) (ad2 : Nat → Nat) (u : xS), ad2 0 = b1 → Rel P2 u → xX p l e room_1 s m #[.ref b] below meth c D vwCl (fun q : Nat => s.heap.size ≤ q) (wL P2 ad2 adm cI cJ cZ) FL σ00 (cL P2) (sL P2) (lw_Z below #[.ref b] s) 4 u 679 [(0, .ref b), (1, .ref b1), (2, .ref (adm 20)), (3, .int (i32 i))] []) (hw : lawS12 false ((xs (i + 1).toNat).toInt) ((xs (i + 2).toNat).toInt) ((xs (i + 3).toNat).toInt) σ Rel) : xX p l e room_1 s m #[.ref b] below meth c D vwCl (fun q : Nat => s.heap.size ≤ q) (wL false ad adm cI cJ cZ) FL σ00 (cL false) (sL false) (lw_Z below #[.ref b] s) 4 σ 422 [(0, .ref b), (1, .ref b1), (2, .ref (adm 20)), (3, .int (i32 i))] [] := by
  have hbA : ¬ (fun q : Nat => s.heap.size ≤ q) b := Nat.not_le.mpr hbl
  unfold lawS12 at hw
  refine xr_aload_n C 1 dL_law_422 rfl rfl ?_
  refine xr_callVi C (ci := 4) (q0 := 0) (As := []) (rest := []) (sp_LN_X ad adm cI cJ cZ) (by decide) (fun _ => trivial) (mX4_mark σ _ hw) (cwV 0 C.2.2.2.2.1 gL_law_X4_mark rfl rfl rfl (by decide +kernel) ⟨(Nat.le_of_ble_eq_true rfl), (Nat.le_of_ble_eq_true rfl)⟩) rfl rfl rfl (by rw [hb1]; rfl) (Nat.le_of_ble_eq_true rfl) ⟨(Nat.le_of_ble_eq_true rfl), (Nat.le_of_ble_eq_true rfl)⟩ dL_law_423 (fun r1 u1 hw => ?_)
  refine xr_aload_n C 2 dL_law_426 rfl rfl ?_
  refine xr_callVi C (ci := 5) (q0 := 0) (As := []) (rest := [.int (i32 r1)]) (sp_LN_M ad adm cI cJ cZ) (by decide) (fun _ => trivial) (mX5_mark u1 _ hw) (cwV 0 C.2.2.2.2.1 gL_law_X5_mark rfl rfl rfl (by decide +kernel) ⟨(Nat.le_of_ble_eq_true rfl), (Nat.le_of_ble_eq_true rfl)⟩) rfl rfl rfl rfl (Nat.le_of_ble_eq_true rfl) ⟨(Nat.le_of_ble_eq_true rfl), (Nat.le_of_ble_eq_true rfl)⟩ dL_law_427 (fun r2 u2 hw => ?_)
  exact xr_same C hw.1 679 dL_law_430 (by decide) (hK false ad u2 hb1 hw.2)
set_option maxHeartbeats 8000000 in
set_option maxRecDepth 200000 in
theorem law_f13 {p : Program} {l : Launch} {e : Env} {s : State} {m : MethodId} {below : List Frame} {meth : Method} {c : Code} {D : va_G} {b L b1 : Nat} {xs : Nat → Int32} {cI cJ cZ : ClassId} {adm : Nat → Nat} {σ00 : xS} (hL : L ≤ 2048) (C : xC True p s m #[.ref b] meth c cL_law 4 RL wsL_law D vwCl (xtys cI cJ cZ) (fun q : Nat => s.heap.size ≤ q)) (hX : va_X b L xs s s.heap) (hbl : b < s.heap.size) {Rel : Bool → xS → Prop} {ad : Nat → Nat} {σ : xS} {i : Int} (hi0 : 0 ≤ i) (hi1 : i + 4 ≤ (L : Int)) (hb1 : ad 0 = b1) (hK : ∀ (P2 : Bool) (ad2 : Nat → Nat) (u : xS), ad2 0 = b1 → Rel P2 u → xX p l e room_1 s m #[.ref b] below meth c D vwCl (fun q : Nat => s.heap.size ≤ q) (wL P2 ad2 adm cI cJ cZ) FL σ00 (cL P2) (sL P2) (lw_Z below #[.ref b] s) 4 u 679 [(0, .ref b), (1, .ref b1), (2, .ref (adm 20)), (3, .int (i32 i))] []) (hw : lawS13 false ((xs (i + 1).toNat).toInt) ((xs (i + 2).toNat).toInt) ((xs (i + 3).toNat).toInt) σ Rel) : xX p l e room_1 s m #[.ref b] below meth c D vwCl (fun q : Nat => s.heap.size ≤ q) (wL false ad adm cI cJ cZ) FL σ00 (cL false) (sL false) (lw_Z below #[.ref b] s) 4 σ 435 [(0, .ref b), (1, .ref b1), (2, .ref (adm 20)), (3, .int (i32 i))] [] := by
  have hbA : ¬ (fun q : Nat => s.heap.size ≤ q) b := Nat.not_le.mpr hbl
  unfold lawS13 at hw
  refine xr_aload_n C 1 dL_law_435 rfl rfl ?_
  refine xr_callVi C (ci := 4) (q0 := 0) (As := []) (rest := []) (sp_LN_X ad adm cI cJ cZ) (by decide) (fun _ => trivial) (mX4_run σ _ hw) (cwV 0 C.2.2.2.2.1 gL_law_X4_run rfl rfl rfl (by decide +kernel) ⟨(Nat.le_of_ble_eq_true rfl), (Nat.le_of_ble_eq_true rfl)⟩) rfl rfl rfl (by rw [hb1]; rfl) (Nat.le_of_ble_eq_true rfl) ⟨(Nat.le_of_ble_eq_true rfl), (Nat.le_of_ble_eq_true rfl)⟩ dL_law_436 (fun r1 u1 hw => ?_)
  refine xr_aload_n C 2 dL_law_439 rfl rfl ?_
  refine xr_callVi C (ci := 5) (q0 := 0) (As := []) (rest := [.int (i32 r1)]) (sp_LN_M ad adm cI cJ cZ) (by decide) (fun _ => trivial) (mX5_run u1 _ hw) (cwV 0 C.2.2.2.2.1 gL_law_X5_run rfl rfl rfl (by decide +kernel) ⟨(Nat.le_of_ble_eq_true rfl), (Nat.le_of_ble_eq_true rfl)⟩) rfl rfl rfl rfl (Nat.le_of_ble_eq_true rfl) ⟨(Nat.le_of_ble_eq_true rfl), (Nat.le_of_ble_eq_true rfl)⟩ dL_law_440 (fun r2 u2 hw => ?_)
  exact xr_same C hw.1 679 dL_law_443 (by decide) (hK false ad u2 hb1 hw.2)
set_option maxHeartbeats 8000000 in
set_option maxRecDepth 200000 in
theorem law_f14 {p : Program} {l : Launch} {e : Env} {s : State} {m : MethodId} {below : List Frame} {meth : Method} {c : Code} {D : va_G} {b L b1 : Nat} {xs : Nat → Int32} {cI cJ cZ : ClassId} {adm : Nat → Nat} {σ00 : xS} (hL : L ≤ 2048) (C : xC True p s m #[.ref b] meth c cL_law 4 RL wsL_law D vwCl (xtys cI cJ cZ) (fun q : Nat => s.heap.size ≤ q)) (hX : va_X b L xs s s.heap) (hbl : b < s.heap.size) {Rel : Bool → xS → Prop} {ad : Nat → Nat} {σ : xS} {i : Int} (hi0 : 0 ≤ i) (hi1 : i + 4 ≤ (L : Int)) (hb1 : ad 0 = b1) (hK : ∀ (P2 : Bool) (ad2 : Nat → Nat) (u : xS), ad2 0 = b1 → Rel P2 u → xX p l e room_1 s m #[.ref b] below meth c D vwCl (fun q : Nat => s.heap.size ≤ q) (wL P2 ad2 adm cI cJ cZ) FL σ00 (cL P2) (sL P2) (lw_Z below #[.ref b] s) 4 u 679 [(0, .ref b), (1, .ref b1), (2, .ref (adm 20)), (3, .int (i32 i))] []) (hw : lawS14 false ((xs (i + 1).toNat).toInt) ((xs (i + 2).toNat).toInt) ((xs (i + 3).toNat).toInt) σ Rel) : xX p l e room_1 s m #[.ref b] below meth c D vwCl (fun q : Nat => s.heap.size ≤ q) (wL false ad adm cI cJ cZ) FL σ00 (cL false) (sL false) (lw_Z below #[.ref b] s) 4 σ 448 [(0, .ref b), (1, .ref b1), (2, .ref (adm 20)), (3, .int (i32 i))] [] := by
  have hbA : ¬ (fun q : Nat => s.heap.size ≤ q) b := Nat.not_le.mpr hbl
  unfold lawS14 at hw
  refine xr_aload_n C 1 dL_law_448 rfl rfl ?_
  refine xr_callVi C (ci := 4) (q0 := 0) (As := []) (rest := []) (sp_LN_X ad adm cI cJ cZ) (by decide) (fun _ => trivial) (mX4_undo σ _ hw) (cwV 0 C.2.2.2.2.1 gL_law_X4_undo rfl rfl rfl (by decide +kernel) ⟨(Nat.le_of_ble_eq_true rfl), (Nat.le_of_ble_eq_true rfl)⟩) rfl rfl rfl (by rw [hb1]; rfl) (Nat.le_of_ble_eq_true rfl) ⟨(Nat.le_of_ble_eq_true rfl), (Nat.le_of_ble_eq_true rfl)⟩ dL_law_449 (fun r1 u1 hw => ?_)
  refine xr_aload_n C 2 dL_law_452 rfl rfl ?_
  refine xr_callVi C (ci := 5) (q0 := 0) (As := []) (rest := [.int (i32 r1)]) (sp_LN_M ad adm cI cJ cZ) (by decide) (fun _ => trivial) (mX5_undo u1 _ hw) (cwV 0 C.2.2.2.2.1 gL_law_X5_undo rfl rfl rfl (by decide +kernel) ⟨(Nat.le_of_ble_eq_true rfl), (Nat.le_of_ble_eq_true rfl)⟩) rfl rfl rfl rfl (Nat.le_of_ble_eq_true rfl) ⟨(Nat.le_of_ble_eq_true rfl), (Nat.le_of_ble_eq_true rfl)⟩ dL_law_453 (fun r2 u2 hw => ?_)
  exact xr_same C hw.1 679 dL_law_456 (by decide) (hK false ad u2 hb1 hw.2)
set_option maxHeartbeats 8000000 in
set_option maxRecDepth 200000 in
theorem law_f15 {p : Program} {l : Launch} {e : Env} {s : State} {m : MethodId} {below : List Frame} {meth : Method} {c : Code} {D : va_G} {b L b1 : Nat} {xs : Nat → Int32} {cI cJ cZ : ClassId} {adm : Nat → Nat} {σ00 : xS} (hL : L ≤ 2048) (C : xC True p s m #[.ref b] meth c cL_law 4 RL wsL_law D vwCl (xtys cI cJ cZ) (fun q : Nat => s.heap.size ≤ q)) (hX : va_X b L xs s s.heap) (hbl : b < s.heap.size) {Rel : Bool → xS → Prop} {ad : Nat → Nat} {σ : xS} {i : Int} (hi0 : 0 ≤ i) (hi1 : i + 4 ≤ (L : Int)) (hb1 : ad 0 = b1) (hK : ∀ (P2 : Bool) (ad2 : Nat → Nat) (u : xS), ad2 0 = b1 → Rel P2 u → xX p l e room_1 s m #[.ref b] below meth c D vwCl (fun q : Nat => s.heap.size ≤ q) (wL P2 ad2 adm cI cJ cZ) FL σ00 (cL P2) (sL P2) (lw_Z below #[.ref b] s) 4 u 679 [(0, .ref b), (1, .ref b1), (2, .ref (adm 20)), (3, .int (i32 i))] []) (hw : lawS15 false ((xs (i + 1).toNat).toInt) ((xs (i + 2).toNat).toInt) ((xs (i + 3).toNat).toInt) σ Rel) : xX p l e room_1 s m #[.ref b] below meth c D vwCl (fun q : Nat => s.heap.size ≤ q) (wL false ad adm cI cJ cZ) FL σ00 (cL false) (sL false) (lw_Z below #[.ref b] s) 4 σ 461 [(0, .ref b), (1, .ref b1), (2, .ref (adm 20)), (3, .int (i32 i))] [] := by
  have hbA : ¬ (fun q : Nat => s.heap.size ≤ q) b := Nat.not_le.mpr hbl
  unfold lawS15 at hw
  refine xr_aload_n C 1 dL_law_461 rfl rfl ?_
  refine xr_aload_n C 0 dL_law_462 rfl rfl ?_
  refine xr_iload_n C 3 dL_law_463 rfl rfl ?_
  refine xr_iconst C dL_law_464 ?_
  refine xr_iadd C dL_law_465 ?_
  refine xr_sld C hX hbl hbA hL (i := (i + 1)) ⟨by omega, by omega⟩ dL_law_466 ?_
  refine xr_aload_n C 0 dL_law_467 rfl rfl ?_
  refine xr_iload_n C 3 dL_law_468 rfl rfl ?_
  refine xr_iconst C dL_law_469 ?_
  refine xr_iadd C dL_law_470 ?_
  refine xr_sld C hX hbl hbA hL (i := (i + 2)) ⟨by omega, by omega⟩ dL_law_471 ?_
  refine xr_callVi C (ci := 4) (q0 := 0) (As := [.int (i32 ((xs (i + 1).toNat).toInt)), .int (i32 ((xs (i + 2).toNat).toInt))]) (rest := []) (sp_LN_X ad adm cI cJ cZ) (by decide) (fun _ => trivial) (mX4_glass σ ((xs (i + 1).toNat).toInt) ((xs (i + 2).toNat).toInt) _ hw) (cwV 2 C.2.2.2.2.1 gL_law_X4_glass rfl rfl rfl (by decide +kernel) ⟨(Nat.le_of_ble_eq_true rfl), (Nat.le_of_ble_eq_true rfl)⟩) rfl rfl rfl (by rw [hb1]; rfl) (Nat.le_of_ble_eq_true rfl) ⟨(Nat.le_of_ble_eq_true rfl), (Nat.le_of_ble_eq_true rfl)⟩ dL_law_472 (fun r1 u1 hw => ?_)
  refine xr_aload_n C 2 dL_law_475 rfl rfl ?_
  refine xr_aload_n C 0 dL_law_476 rfl rfl ?_
  refine xr_iload_n C 3 dL_law_477 rfl rfl ?_
  refine xr_iconst C dL_law_478 ?_
  refine xr_iadd C dL_law_479 ?_
  refine xr_sld C hX hbl hbA hL (i := (i + 1)) ⟨by omega, by omega⟩ dL_law_480 ?_
  refine xr_aload_n C 0 dL_law_481 rfl rfl ?_
  refine xr_iload_n C 3 dL_law_482 rfl rfl ?_
  refine xr_iconst C dL_law_483 ?_
  refine xr_iadd C dL_law_484 ?_
  refine xr_sld C hX hbl hbA hL (i := (i + 2)) ⟨by omega, by omega⟩ dL_law_485 ?_
  refine xr_callVi C (ci := 5) (q0 := 0) (As := [.int (i32 ((xs (i + 1).toNat).toInt)), .int (i32 ((xs (i + 2).toNat).toInt))]) (rest := [.int (i32 r1)]) (sp_LN_M ad adm cI cJ cZ) (by decide) (fun _ => trivial) (mX5_glass u1 ((xs (i + 1).toNat).toInt) ((xs (i + 2).toNat).toInt) _ hw) (cwV 2 C.2.2.2.2.1 gL_law_X5_glass rfl rfl rfl (by decide +kernel) ⟨(Nat.le_of_ble_eq_true rfl), (Nat.le_of_ble_eq_true rfl)⟩) rfl rfl rfl rfl (Nat.le_of_ble_eq_true rfl) ⟨(Nat.le_of_ble_eq_true rfl), (Nat.le_of_ble_eq_true rfl)⟩ dL_law_486 (fun r2 u2 hw => ?_)
  exact xr_same C hw.1 679 dL_law_489 (by decide) (hK false ad u2 hb1 hw.2)
set_option maxHeartbeats 8000000 in
set_option maxRecDepth 200000 in
theorem law_f16 {p : Program} {l : Launch} {e : Env} {s : State} {m : MethodId} {below : List Frame} {meth : Method} {c : Code} {D : va_G} {b L b1 : Nat} {xs : Nat → Int32} {cI cJ cZ : ClassId} {adm : Nat → Nat} {σ00 : xS} (hL : L ≤ 2048) (C : xC True p s m #[.ref b] meth c cL_law 4 RL wsL_law D vwCl (xtys cI cJ cZ) (fun q : Nat => s.heap.size ≤ q)) (hX : va_X b L xs s s.heap) (hbl : b < s.heap.size) {Rel : Bool → xS → Prop} {ad : Nat → Nat} {σ : xS} {i : Int} (hi0 : 0 ≤ i) (hi1 : i + 4 ≤ (L : Int)) (hb1 : ad 0 = b1) (hK : ∀ (P2 : Bool) (ad2 : Nat → Nat) (u : xS), ad2 0 = b1 → Rel P2 u → xX p l e room_1 s m #[.ref b] below meth c D vwCl (fun q : Nat => s.heap.size ≤ q) (wL P2 ad2 adm cI cJ cZ) FL σ00 (cL P2) (sL P2) (lw_Z below #[.ref b] s) 4 u 679 [(0, .ref b), (1, .ref b1), (2, .ref (adm 20)), (3, .int (i32 i))] []) (hw : lawS16 false ((xs (i + 1).toNat).toInt) ((xs (i + 2).toNat).toInt) ((xs (i + 3).toNat).toInt) σ Rel) : xX p l e room_1 s m #[.ref b] below meth c D vwCl (fun q : Nat => s.heap.size ≤ q) (wL false ad adm cI cJ cZ) FL σ00 (cL false) (sL false) (lw_Z below #[.ref b] s) 4 σ 494 [(0, .ref b), (1, .ref b1), (2, .ref (adm 20)), (3, .int (i32 i))] [] := by
  have hbA : ¬ (fun q : Nat => s.heap.size ≤ q) b := Nat.not_le.mpr hbl
  unfold lawS16 at hw
  refine xr_aload_n C 1 dL_law_494 rfl rfl ?_
  refine xr_aload_n C 0 dL_law_495 rfl rfl ?_
  refine xr_iload_n C 3 dL_law_496 rfl rfl ?_
  refine xr_iconst C dL_law_497 ?_
  refine xr_iadd C dL_law_498 ?_
  refine xr_sld C hX hbl hbA hL (i := (i + 1)) ⟨by omega, by omega⟩ dL_law_499 ?_
  refine xr_aload_n C 0 dL_law_500 rfl rfl ?_
  refine xr_iload_n C 3 dL_law_501 rfl rfl ?_
  refine xr_iconst C dL_law_502 ?_
  refine xr_iadd C dL_law_503 ?_
  refine xr_sld C hX hbl hbA hL (i := (i + 2)) ⟨by omega, by omega⟩ dL_law_504 ?_
  refine xr_callVi C (ci := 4) (q0 := 0) (As := [.int (i32 ((xs (i + 1).toNat).toInt)), .int (i32 ((xs (i + 2).toNat).toInt))]) (rest := []) (sp_LN_X ad adm cI cJ cZ) (by decide) (fun _ => trivial) (mX4_event σ ((xs (i + 1).toNat).toInt) ((xs (i + 2).toNat).toInt) _ hw) (cwV 2 C.2.2.2.2.1 gL_law_X4_event rfl rfl rfl (by decide +kernel) ⟨(Nat.le_of_ble_eq_true rfl), (Nat.le_of_ble_eq_true rfl)⟩) rfl rfl rfl (by rw [hb1]; rfl) (Nat.le_of_ble_eq_true rfl) ⟨(Nat.le_of_ble_eq_true rfl), (Nat.le_of_ble_eq_true rfl)⟩ dL_law_505 (fun r1 u1 hw => ?_)
  refine xr_aload_n C 2 dL_law_508 rfl rfl ?_
  refine xr_aload_n C 0 dL_law_509 rfl rfl ?_
  refine xr_iload_n C 3 dL_law_510 rfl rfl ?_
  refine xr_iconst C dL_law_511 ?_
  refine xr_iadd C dL_law_512 ?_
  refine xr_sld C hX hbl hbA hL (i := (i + 1)) ⟨by omega, by omega⟩ dL_law_513 ?_
  refine xr_aload_n C 0 dL_law_514 rfl rfl ?_
  refine xr_iload_n C 3 dL_law_515 rfl rfl ?_
  refine xr_iconst C dL_law_516 ?_
  refine xr_iadd C dL_law_517 ?_
  refine xr_sld C hX hbl hbA hL (i := (i + 2)) ⟨by omega, by omega⟩ dL_law_518 ?_
  refine xr_callVi C (ci := 5) (q0 := 0) (As := [.int (i32 ((xs (i + 1).toNat).toInt)), .int (i32 ((xs (i + 2).toNat).toInt))]) (rest := [.int (i32 r1)]) (sp_LN_M ad adm cI cJ cZ) (by decide) (fun _ => trivial) (mX5_event u1 ((xs (i + 1).toNat).toInt) ((xs (i + 2).toNat).toInt) _ hw) (cwV 2 C.2.2.2.2.1 gL_law_X5_event rfl rfl rfl (by decide +kernel) ⟨(Nat.le_of_ble_eq_true rfl), (Nat.le_of_ble_eq_true rfl)⟩) rfl rfl rfl rfl (Nat.le_of_ble_eq_true rfl) ⟨(Nat.le_of_ble_eq_true rfl), (Nat.le_of_ble_eq_true rfl)⟩ dL_law_519 (fun r2 u2 hw => ?_)
  exact xr_same C hw.1 679 dL_law_522 (by decide) (hK false ad u2 hb1 hw.2)
set_option maxHeartbeats 8000000 in
set_option maxRecDepth 200000 in
theorem law_f17 {p : Program} {l : Launch} {e : Env} {s : State} {m : MethodId} {below : List Frame} {meth : Method} {c : Code} {D : va_G} {b L b1 : Nat} {xs : Nat → Int32} {cI cJ cZ : ClassId} {adm : Nat → Nat} {σ00 : xS} (hL : L ≤ 2048) (C : xC True p s m #[.ref b] meth c cL_law 4 RL wsL_law D vwCl (xtys cI cJ cZ) (fun q : Nat => s.heap.size ≤ q)) (hX : va_X b L xs s s.heap) (hbl : b < s.heap.size) {Rel : Bool → xS → Prop} {ad : Nat → Nat} {σ : xS} {i : Int} (hi0 : 0 ≤ i) (hi1 : i + 4 ≤ (L : Int)) (hb1 : ad 0 = b1) (hK : ∀ (P2 : Bool) (ad2 : Nat → Nat) (u : xS), ad2 0 = b1 → Rel P2 u → xX p l e room_1 s m #[.ref b] below meth c D vwCl (fun q : Nat => s.heap.size ≤ q) (wL P2 ad2 adm cI cJ cZ) FL σ00 (cL P2) (sL P2) (lw_Z below #[.ref b] s) 4 u 679 [(0, .ref b), (1, .ref b1), (2, .ref (adm 20)), (3, .int (i32 i))] []) (hw : lawS17 false ((xs (i + 1).toNat).toInt) ((xs (i + 2).toNat).toInt) ((xs (i + 3).toNat).toInt) σ Rel) : xX p l e room_1 s m #[.ref b] below meth c D vwCl (fun q : Nat => s.heap.size ≤ q) (wL false ad adm cI cJ cZ) FL σ00 (cL false) (sL false) (lw_Z below #[.ref b] s) 4 σ 527 [(0, .ref b), (1, .ref b1), (2, .ref (adm 20)), (3, .int (i32 i))] [] := by
  have hbA : ¬ (fun q : Nat => s.heap.size ≤ q) b := Nat.not_le.mpr hbl
  simp only [lawS17] at hw
  refine xr_aload_n C 1 dL_law_527 rfl rfl ?_
  refine xr_aload_n C 0 dL_law_528 rfl rfl ?_
  refine xr_iload_n C 3 dL_law_529 rfl rfl ?_
  refine xr_iconst C dL_law_530 ?_
  refine xr_iadd C dL_law_531 ?_
  refine xr_sld C hX hbl hbA hL (i := (i + 1)) ⟨by omega, by omega⟩ dL_law_532 ?_
  by_cases hbad : (((xs (i + 1).toNat).toInt) < 1 ∨ 40 < ((xs (i + 1).toNat).toInt))
  · have hw := hw.1 hbad
    refine xr_callOi C (ci := 4) (q0 := 0) (As := [.int (i32 ((xs (i + 1).toNat).toInt))]) (rest := []) (w0 := (wX .null ad cI cJ cZ)) (wM adm cI cJ cZ) (fun _ => rfl) (fun u u2 h => wM_ind h) (by decide) (mX4_cost (mc := 0) (ms := 0) (w0 := (wX .null ad cI cJ cZ)) (rmP := { frames := 0, cells := 0, slots := 0, locals := 0 }) (RP := RF) hb1 rfl rfl (xSp_rf _ _) (fun u => by rw [← hb1]; rfl) (fun _ _ h => False.elim h) σ ((xs (i + 1).toNat).toInt) _ hw) (cwV 1 C.2.2.2.2.1 gL_law_X4_cost rfl rfl rfl (by decide +kernel) ⟨(Nat.le_of_ble_eq_true rfl), (Nat.le_of_ble_eq_true rfl)⟩) rfl (by rw [← hb1]; rfl) rfl rfl (Nat.le_of_ble_eq_true rfl) ⟨(Nat.le_of_ble_eq_true rfl), (Nat.le_of_ble_eq_true rfl)⟩ dL_law_533 (fun r1 u1 hw => ?_) (fun r1 u1 ad2 hb2 hw => ?_)
    · have hw := hw.2
      refine xr_aload_n C 2 dL_law_536 rfl rfl ?_
      refine xr_aload_n C 0 dL_law_537 rfl rfl ?_
      refine xr_iload_n C 3 dL_law_538 rfl rfl ?_
      refine xr_iconst C dL_law_539 ?_
      refine xr_iadd C dL_law_540 ?_
      refine xr_sld C hX hbl hbA hL (i := (i + 1)) ⟨by omega, by omega⟩ dL_law_541 ?_
      refine xr_callVi C (ci := 5) (q0 := 0) (As := [.int (i32 ((xs (i + 1).toNat).toInt))]) (rest := [.int (i32 r1)]) (sp_LN_M ad adm cI cJ cZ) (by decide) (fun _ => trivial) (mX5_cost u1 ((xs (i + 1).toNat).toInt) _ hw) (cwV 1 C.2.2.2.2.1 gL_law_X5_cost rfl rfl rfl (by decide +kernel) ⟨(Nat.le_of_ble_eq_true rfl), (Nat.le_of_ble_eq_true rfl)⟩) rfl rfl rfl rfl (Nat.le_of_ble_eq_true rfl) ⟨(Nat.le_of_ble_eq_true rfl), (Nat.le_of_ble_eq_true rfl)⟩ dL_law_542 (fun r2 u2 hw => ?_)
      exact xr_same C hw.1 679 dL_law_545 (by decide) (hK false ad u2 hb1 hw.2)
    · exact absurd hw.1 (by decide)
  · have hw := hw.2 hbad
    refine xr_callOi C (ci := 4) (q0 := 0) (As := [.int (i32 ((xs (i + 1).toNat).toInt))]) (rest := []) (w0 := (wX .null ad cI cJ cZ)) (wM adm cI cJ cZ) (fun _ => rfl) (fun u u2 h => wM_ind h) (by decide) (mX4_cost (mc := 6) (ms := 20069) (w0 := (wX .null ad cI cJ cZ)) (rmP := rmRPN) (RP := vRPN) hb1 rfl rfl (xSp_rf _ _) (fun u => by rw [← hb1]; rfl) (fun σ Q h => mRPN hb1 σ Q h) σ ((xs (i + 1).toNat).toInt) _ hw) (cwV 1 C.2.2.2.2.1 gL_law_X4_cost rfl rfl rfl (by decide +kernel) ⟨(Nat.le_of_ble_eq_true rfl), (Nat.le_of_ble_eq_true rfl)⟩) rfl (by rw [← hb1]; rfl) rfl rfl (Nat.le_of_ble_eq_true rfl) ⟨(Nat.le_of_ble_eq_true rfl), (Nat.le_of_ble_eq_true rfl)⟩ dL_law_533 (fun r1 u1 hw => ?_) (fun r1 u1 ad2 hb2 hw => ?_)
    · exact absurd hw.1 (by decide)
    · have hw := hw.2
      refine xr_world (wL true ad2 adm cI cJ cZ) (fun _ => rfl) ?_
      refine xr_aload_n C 2 dL_law_536 rfl rfl ?_
      refine xr_aload_n C 0 dL_law_537 rfl rfl ?_
      refine xr_iload_n C 3 dL_law_538 rfl rfl ?_
      refine xr_iconst C dL_law_539 ?_
      refine xr_iadd C dL_law_540 ?_
      refine xr_sld C hX hbl hbA hL (i := (i + 1)) ⟨by omega, by omega⟩ dL_law_541 ?_
      refine xr_callVi C (ci := 5) (q0 := 0) (As := [.int (i32 ((xs (i + 1).toNat).toInt))]) (rest := [.int (i32 r1)]) (sp_LP_M ad2 adm cI cJ cZ) (by decide) (fun _ => trivial) (mX5_cost u1 ((xs (i + 1).toNat).toInt) _ hw) (cwV 1 C.2.2.2.2.1 gL_law_X5_cost rfl rfl rfl (by decide +kernel) ⟨(Nat.le_of_ble_eq_true rfl), (Nat.le_of_ble_eq_true rfl)⟩) rfl rfl rfl rfl (Nat.le_of_ble_eq_true rfl) ⟨(Nat.le_of_ble_eq_true rfl), (Nat.le_of_ble_eq_true rfl)⟩ dL_law_542 (fun r2 u2b hw => ?_)
      exact xr_same C hw.1 679 dL_law_545 (by decide) (hK true ad2 u2b hb2 hw.2)
set_option maxHeartbeats 8000000 in
set_option maxRecDepth 200000 in
theorem law_f18 {p : Program} {l : Launch} {e : Env} {s : State} {m : MethodId} {below : List Frame} {meth : Method} {c : Code} {D : va_G} {b L b1 : Nat} {xs : Nat → Int32} {cI cJ cZ : ClassId} {adm : Nat → Nat} {σ00 : xS} (hL : L ≤ 2048) (C : xC True p s m #[.ref b] meth c cL_law 4 RL wsL_law D vwCl (xtys cI cJ cZ) (fun q : Nat => s.heap.size ≤ q)) (hX : va_X b L xs s s.heap) (hbl : b < s.heap.size) {Rel : Bool → xS → Prop} {ad : Nat → Nat} {σ : xS} {i : Int} (hi0 : 0 ≤ i) (hi1 : i + 4 ≤ (L : Int)) (hb1 : ad 0 = b1) (hK : ∀ (P2 : Bool) (ad2 : Nat → Nat) (u : xS), ad2 0 = b1 → Rel P2 u → xX p l e room_1 s m #[.ref b] below meth c D vwCl (fun q : Nat => s.heap.size ≤ q) (wL P2 ad2 adm cI cJ cZ) FL σ00 (cL P2) (sL P2) (lw_Z below #[.ref b] s) 4 u 679 [(0, .ref b), (1, .ref b1), (2, .ref (adm 20)), (3, .int (i32 i))] []) (hw : lawS18 false ((xs (i + 1).toNat).toInt) ((xs (i + 2).toNat).toInt) ((xs (i + 3).toNat).toInt) σ Rel) : xX p l e room_1 s m #[.ref b] below meth c D vwCl (fun q : Nat => s.heap.size ≤ q) (wL false ad adm cI cJ cZ) FL σ00 (cL false) (sL false) (lw_Z below #[.ref b] s) 4 σ 550 [(0, .ref b), (1, .ref b1), (2, .ref (adm 20)), (3, .int (i32 i))] [] := by
  have hbA : ¬ (fun q : Nat => s.heap.size ≤ q) b := Nat.not_le.mpr hbl
  simp only [lawS18] at hw
  by_cases hc : (xs (i + 3).toNat).toInt = 0
  · simp only [if_pos hc] at hw
    refine xr_aload_n C 1 dL_law_550 rfl rfl ?_
    refine xr_aload_n C 0 dL_law_551 rfl rfl ?_
    refine xr_iload_n C 3 dL_law_552 rfl rfl ?_
    refine xr_iconst C dL_law_553 ?_
    refine xr_iadd C dL_law_554 ?_
    refine xr_sld C hX hbl hbA hL (i := (i + 1)) ⟨by omega, by omega⟩ dL_law_555 ?_
    refine xr_aload_n C 0 dL_law_556 rfl rfl ?_
    refine xr_iload_n C 3 dL_law_557 rfl rfl ?_
    refine xr_iconst C dL_law_558 ?_
    refine xr_iadd C dL_law_559 ?_
    refine xr_sld C hX hbl hbA hL (i := (i + 2)) ⟨by omega, by omega⟩ dL_law_560 ?_
    refine xr_aload_n C 0 dL_law_561 rfl rfl ?_
    refine xr_iload_n C 3 dL_law_562 rfl rfl ?_
    refine xr_iconst C dL_law_563 ?_
    refine xr_iadd C dL_law_564 ?_
    refine xr_sld C hX hbl hbA hL (i := (i + 3)) ⟨by omega, by omega⟩ dL_law_565 ?_
    refine xr_zero C hc 573 dL_law_566 (by decide) ?_
    refine xr_iconst C dL_law_573 ?_
    by_cases hbad : ((((xs (i + 1).toNat).toInt) < 1 ∨ 40 < ((xs (i + 1).toNat).toInt)) ∨ ((xs (i + 2).toNat).toInt) < 0)
    · have hw := hw.1 hbad
      refine xr_callOi C (ci := 4) (q0 := 0) (As := [.int (i32 ((xs (i + 1).toNat).toInt)), .int (i32 ((xs (i + 2).toNat).toInt)), .int (i32 0)]) (rest := []) (w0 := (wX .null ad cI cJ cZ)) (wM adm cI cJ cZ) (fun _ => rfl) (fun u u2 h => wM_ind h) (by decide) (mX4_planned (mc := 0) (ms := 0) (w0 := (wX .null ad cI cJ cZ)) (rmP := { frames := 0, cells := 0, slots := 0, locals := 0 }) (RP := RF) hb1 rfl rfl (xSp_rf _ _) (fun u => by rw [← hb1]; rfl) (fun _ _ h => False.elim h) σ ((xs (i + 1).toNat).toInt) ((xs (i + 2).toNat).toInt) 0 _ hw) (cwV 3 C.2.2.2.2.1 gL_law_X4_planned rfl rfl rfl (by decide +kernel) ⟨(Nat.le_of_ble_eq_true rfl), (Nat.le_of_ble_eq_true rfl)⟩) rfl (by rw [← hb1]; rfl) rfl rfl (Nat.le_of_ble_eq_true rfl) ⟨(Nat.le_of_ble_eq_true rfl), (Nat.le_of_ble_eq_true rfl)⟩ dL_law_574 (fun r1 u1 hw => ?_) (fun r1 u1 ad2 hb2 hw => ?_)
      · have hw := hw.2
        refine xr_aload_n C 2 dL_law_577 rfl rfl ?_
        refine xr_aload_n C 0 dL_law_578 rfl rfl ?_
        refine xr_iload_n C 3 dL_law_579 rfl rfl ?_
        refine xr_iconst C dL_law_580 ?_
        refine xr_iadd C dL_law_581 ?_
        refine xr_sld C hX hbl hbA hL (i := (i + 1)) ⟨by omega, by omega⟩ dL_law_582 ?_
        refine xr_aload_n C 0 dL_law_583 rfl rfl ?_
        refine xr_iload_n C 3 dL_law_584 rfl rfl ?_
        refine xr_iconst C dL_law_585 ?_
        refine xr_iadd C dL_law_586 ?_
        refine xr_sld C hX hbl hbA hL (i := (i + 2)) ⟨by omega, by omega⟩ dL_law_587 ?_
        refine xr_aload_n C 0 dL_law_588 rfl rfl ?_
        refine xr_iload_n C 3 dL_law_589 rfl rfl ?_
        refine xr_iconst C dL_law_590 ?_
        refine xr_iadd C dL_law_591 ?_
        refine xr_sld C hX hbl hbA hL (i := (i + 3)) ⟨by omega, by omega⟩ dL_law_592 ?_
        refine xr_zero C hc 600 dL_law_593 (by decide) ?_
        refine xr_iconst C dL_law_600 ?_
        refine xr_callVi C (ci := 5) (q0 := 0) (As := [.int (i32 ((xs (i + 1).toNat).toInt)), .int (i32 ((xs (i + 2).toNat).toInt)), .int (i32 0)]) (rest := [.int (i32 r1)]) (sp_LN_M ad adm cI cJ cZ) (by decide) (fun _ => trivial) (mX5_planned u1 ((xs (i + 1).toNat).toInt) ((xs (i + 2).toNat).toInt) 0 _ hw) (cwV 3 C.2.2.2.2.1 gL_law_X5_planned rfl rfl rfl (by decide +kernel) ⟨(Nat.le_of_ble_eq_true rfl), (Nat.le_of_ble_eq_true rfl)⟩) rfl rfl rfl rfl (Nat.le_of_ble_eq_true rfl) ⟨(Nat.le_of_ble_eq_true rfl), (Nat.le_of_ble_eq_true rfl)⟩ dL_law_601 (fun r2 u2 hw => ?_)
        exact xr_same C hw.1 679 dL_law_604 (by decide) (hK false ad u2 hb1 hw.2)
      · exact absurd hw.1 (by decide)
    · have hw := hw.2 hbad
      refine xr_callOi C (ci := 4) (q0 := 0) (As := [.int (i32 ((xs (i + 1).toNat).toInt)), .int (i32 ((xs (i + 2).toNat).toInt)), .int (i32 0)]) (rest := []) (w0 := (wX .null ad cI cJ cZ)) (wM adm cI cJ cZ) (fun _ => rfl) (fun u u2 h => wM_ind h) (by decide) (mX4_planned (mc := 6) (ms := 20069) (w0 := (wX .null ad cI cJ cZ)) (rmP := rmRPN) (RP := vRPN) hb1 rfl rfl (xSp_rf _ _) (fun u => by rw [← hb1]; rfl) (fun σ Q h => mRPN hb1 σ Q h) σ ((xs (i + 1).toNat).toInt) ((xs (i + 2).toNat).toInt) 0 _ hw) (cwV 3 C.2.2.2.2.1 gL_law_X4_planned rfl rfl rfl (by decide +kernel) ⟨(Nat.le_of_ble_eq_true rfl), (Nat.le_of_ble_eq_true rfl)⟩) rfl (by rw [← hb1]; rfl) rfl rfl (Nat.le_of_ble_eq_true rfl) ⟨(Nat.le_of_ble_eq_true rfl), (Nat.le_of_ble_eq_true rfl)⟩ dL_law_574 (fun r1 u1 hw => ?_) (fun r1 u1 ad2 hb2 hw => ?_)
      · exact absurd hw.1 (by decide)
      · have hw := hw.2
        refine xr_world (wL true ad2 adm cI cJ cZ) (fun _ => rfl) ?_
        refine xr_aload_n C 2 dL_law_577 rfl rfl ?_
        refine xr_aload_n C 0 dL_law_578 rfl rfl ?_
        refine xr_iload_n C 3 dL_law_579 rfl rfl ?_
        refine xr_iconst C dL_law_580 ?_
        refine xr_iadd C dL_law_581 ?_
        refine xr_sld C hX hbl hbA hL (i := (i + 1)) ⟨by omega, by omega⟩ dL_law_582 ?_
        refine xr_aload_n C 0 dL_law_583 rfl rfl ?_
        refine xr_iload_n C 3 dL_law_584 rfl rfl ?_
        refine xr_iconst C dL_law_585 ?_
        refine xr_iadd C dL_law_586 ?_
        refine xr_sld C hX hbl hbA hL (i := (i + 2)) ⟨by omega, by omega⟩ dL_law_587 ?_
        refine xr_aload_n C 0 dL_law_588 rfl rfl ?_
        refine xr_iload_n C 3 dL_law_589 rfl rfl ?_
        refine xr_iconst C dL_law_590 ?_
        refine xr_iadd C dL_law_591 ?_
        refine xr_sld C hX hbl hbA hL (i := (i + 3)) ⟨by omega, by omega⟩ dL_law_592 ?_
        refine xr_zero C hc 600 dL_law_593 (by decide) ?_
        refine xr_iconst C dL_law_600 ?_
        refine xr_callVi C (ci := 5) (q0 := 0) (As := [.int (i32 ((xs (i + 1).toNat).toInt)), .int (i32 ((xs (i + 2).toNat).toInt)), .int (i32 0)]) (rest := [.int (i32 r1)]) (sp_LP_M ad2 adm cI cJ cZ) (by decide) (fun _ => trivial) (mX5_planned u1 ((xs (i + 1).toNat).toInt) ((xs (i + 2).toNat).toInt) 0 _ hw) (cwV 3 C.2.2.2.2.1 gL_law_X5_planned rfl rfl rfl (by decide +kernel) ⟨(Nat.le_of_ble_eq_true rfl), (Nat.le_of_ble_eq_true rfl)⟩) rfl rfl rfl rfl (Nat.le_of_ble_eq_true rfl) ⟨(Nat.le_of_ble_eq_true rfl), (Nat.le_of_ble_eq_true rfl)⟩ dL_law_601 (fun r2 u2b hw => ?_)
        exact xr_same C hw.1 679 dL_law_604 (by decide) (hK true ad2 u2b hb2 hw.2)
  · simp only [if_neg hc] at hw
    refine xr_aload_n C 1 dL_law_550 rfl rfl ?_
    refine xr_aload_n C 0 dL_law_551 rfl rfl ?_
    refine xr_iload_n C 3 dL_law_552 rfl rfl ?_
    refine xr_iconst C dL_law_553 ?_
    refine xr_iadd C dL_law_554 ?_
    refine xr_sld C hX hbl hbA hL (i := (i + 1)) ⟨by omega, by omega⟩ dL_law_555 ?_
    refine xr_aload_n C 0 dL_law_556 rfl rfl ?_
    refine xr_iload_n C 3 dL_law_557 rfl rfl ?_
    refine xr_iconst C dL_law_558 ?_
    refine xr_iadd C dL_law_559 ?_
    refine xr_sld C hX hbl hbA hL (i := (i + 2)) ⟨by omega, by omega⟩ dL_law_560 ?_
    refine xr_aload_n C 0 dL_law_561 rfl rfl ?_
    refine xr_iload_n C 3 dL_law_562 rfl rfl ?_
    refine xr_iconst C dL_law_563 ?_
    refine xr_iadd C dL_law_564 ?_
    refine xr_sld C hX hbl hbA hL (i := (i + 3)) ⟨by omega, by omega⟩ dL_law_565 ?_
    refine xr_nonzero C (tgt := 573) (i32_rng _) hc dL_law_566 (by decide) ?_
    refine xr_iconst C dL_law_569 ?_
    refine xr_goto C 574 dL_law_570 (by decide) ?_
    by_cases hbad : ((((xs (i + 1).toNat).toInt) < 1 ∨ 40 < ((xs (i + 1).toNat).toInt)) ∨ ((xs (i + 2).toNat).toInt) < 0)
    · have hw := hw.1 hbad
      refine xr_callOi C (ci := 4) (q0 := 0) (As := [.int (i32 ((xs (i + 1).toNat).toInt)), .int (i32 ((xs (i + 2).toNat).toInt)), .int (i32 1)]) (rest := []) (w0 := (wX .null ad cI cJ cZ)) (wM adm cI cJ cZ) (fun _ => rfl) (fun u u2 h => wM_ind h) (by decide) (mX4_planned (mc := 0) (ms := 0) (w0 := (wX .null ad cI cJ cZ)) (rmP := { frames := 0, cells := 0, slots := 0, locals := 0 }) (RP := RF) hb1 rfl rfl (xSp_rf _ _) (fun u => by rw [← hb1]; rfl) (fun _ _ h => False.elim h) σ ((xs (i + 1).toNat).toInt) ((xs (i + 2).toNat).toInt) 1 _ hw) (cwV 3 C.2.2.2.2.1 gL_law_X4_planned rfl rfl rfl (by decide +kernel) ⟨(Nat.le_of_ble_eq_true rfl), (Nat.le_of_ble_eq_true rfl)⟩) rfl (by rw [← hb1]; rfl) rfl rfl (Nat.le_of_ble_eq_true rfl) ⟨(Nat.le_of_ble_eq_true rfl), (Nat.le_of_ble_eq_true rfl)⟩ dL_law_574 (fun r1 u1 hw => ?_) (fun r1 u1 ad2 hb2 hw => ?_)
      · have hw := hw.2
        refine xr_aload_n C 2 dL_law_577 rfl rfl ?_
        refine xr_aload_n C 0 dL_law_578 rfl rfl ?_
        refine xr_iload_n C 3 dL_law_579 rfl rfl ?_
        refine xr_iconst C dL_law_580 ?_
        refine xr_iadd C dL_law_581 ?_
        refine xr_sld C hX hbl hbA hL (i := (i + 1)) ⟨by omega, by omega⟩ dL_law_582 ?_
        refine xr_aload_n C 0 dL_law_583 rfl rfl ?_
        refine xr_iload_n C 3 dL_law_584 rfl rfl ?_
        refine xr_iconst C dL_law_585 ?_
        refine xr_iadd C dL_law_586 ?_
        refine xr_sld C hX hbl hbA hL (i := (i + 2)) ⟨by omega, by omega⟩ dL_law_587 ?_
        refine xr_aload_n C 0 dL_law_588 rfl rfl ?_
        refine xr_iload_n C 3 dL_law_589 rfl rfl ?_
        refine xr_iconst C dL_law_590 ?_
        refine xr_iadd C dL_law_591 ?_
        refine xr_sld C hX hbl hbA hL (i := (i + 3)) ⟨by omega, by omega⟩ dL_law_592 ?_
        refine xr_nonzero C (tgt := 600) (i32_rng _) hc dL_law_593 (by decide) ?_
        refine xr_iconst C dL_law_596 ?_
        refine xr_goto C 601 dL_law_597 (by decide) ?_
        refine xr_callVi C (ci := 5) (q0 := 0) (As := [.int (i32 ((xs (i + 1).toNat).toInt)), .int (i32 ((xs (i + 2).toNat).toInt)), .int (i32 1)]) (rest := [.int (i32 r1)]) (sp_LN_M ad adm cI cJ cZ) (by decide) (fun _ => trivial) (mX5_planned u1 ((xs (i + 1).toNat).toInt) ((xs (i + 2).toNat).toInt) 1 _ hw) (cwV 3 C.2.2.2.2.1 gL_law_X5_planned rfl rfl rfl (by decide +kernel) ⟨(Nat.le_of_ble_eq_true rfl), (Nat.le_of_ble_eq_true rfl)⟩) rfl rfl rfl rfl (Nat.le_of_ble_eq_true rfl) ⟨(Nat.le_of_ble_eq_true rfl), (Nat.le_of_ble_eq_true rfl)⟩ dL_law_601 (fun r2 u2 hw => ?_)
        exact xr_same C hw.1 679 dL_law_604 (by decide) (hK false ad u2 hb1 hw.2)
      · exact absurd hw.1 (by decide)
    · have hw := hw.2 hbad
      refine xr_callOi C (ci := 4) (q0 := 0) (As := [.int (i32 ((xs (i + 1).toNat).toInt)), .int (i32 ((xs (i + 2).toNat).toInt)), .int (i32 1)]) (rest := []) (w0 := (wX .null ad cI cJ cZ)) (wM adm cI cJ cZ) (fun _ => rfl) (fun u u2 h => wM_ind h) (by decide) (mX4_planned (mc := 6) (ms := 20069) (w0 := (wX .null ad cI cJ cZ)) (rmP := rmRPN) (RP := vRPN) hb1 rfl rfl (xSp_rf _ _) (fun u => by rw [← hb1]; rfl) (fun σ Q h => mRPN hb1 σ Q h) σ ((xs (i + 1).toNat).toInt) ((xs (i + 2).toNat).toInt) 1 _ hw) (cwV 3 C.2.2.2.2.1 gL_law_X4_planned rfl rfl rfl (by decide +kernel) ⟨(Nat.le_of_ble_eq_true rfl), (Nat.le_of_ble_eq_true rfl)⟩) rfl (by rw [← hb1]; rfl) rfl rfl (Nat.le_of_ble_eq_true rfl) ⟨(Nat.le_of_ble_eq_true rfl), (Nat.le_of_ble_eq_true rfl)⟩ dL_law_574 (fun r1 u1 hw => ?_) (fun r1 u1 ad2 hb2 hw => ?_)
      · exact absurd hw.1 (by decide)
      · have hw := hw.2
        refine xr_world (wL true ad2 adm cI cJ cZ) (fun _ => rfl) ?_
        refine xr_aload_n C 2 dL_law_577 rfl rfl ?_
        refine xr_aload_n C 0 dL_law_578 rfl rfl ?_
        refine xr_iload_n C 3 dL_law_579 rfl rfl ?_
        refine xr_iconst C dL_law_580 ?_
        refine xr_iadd C dL_law_581 ?_
        refine xr_sld C hX hbl hbA hL (i := (i + 1)) ⟨by omega, by omega⟩ dL_law_582 ?_
        refine xr_aload_n C 0 dL_law_583 rfl rfl ?_
        refine xr_iload_n C 3 dL_law_584 rfl rfl ?_
        refine xr_iconst C dL_law_585 ?_
        refine xr_iadd C dL_law_586 ?_
        refine xr_sld C hX hbl hbA hL (i := (i + 2)) ⟨by omega, by omega⟩ dL_law_587 ?_
        refine xr_aload_n C 0 dL_law_588 rfl rfl ?_
        refine xr_iload_n C 3 dL_law_589 rfl rfl ?_
        refine xr_iconst C dL_law_590 ?_
        refine xr_iadd C dL_law_591 ?_
        refine xr_sld C hX hbl hbA hL (i := (i + 3)) ⟨by omega, by omega⟩ dL_law_592 ?_
        refine xr_nonzero C (tgt := 600) (i32_rng _) hc dL_law_593 (by decide) ?_
        refine xr_iconst C dL_law_596 ?_
        refine xr_goto C 601 dL_law_597 (by decide) ?_
        refine xr_callVi C (ci := 5) (q0 := 0) (As := [.int (i32 ((xs (i + 1).toNat).toInt)), .int (i32 ((xs (i + 2).toNat).toInt)), .int (i32 1)]) (rest := [.int (i32 r1)]) (sp_LP_M ad2 adm cI cJ cZ) (by decide) (fun _ => trivial) (mX5_planned u1 ((xs (i + 1).toNat).toInt) ((xs (i + 2).toNat).toInt) 1 _ hw) (cwV 3 C.2.2.2.2.1 gL_law_X5_planned rfl rfl rfl (by decide +kernel) ⟨(Nat.le_of_ble_eq_true rfl), (Nat.le_of_ble_eq_true rfl)⟩) rfl rfl rfl rfl (Nat.le_of_ble_eq_true rfl) ⟨(Nat.le_of_ble_eq_true rfl), (Nat.le_of_ble_eq_true rfl)⟩ dL_law_601 (fun r2 u2b hw => ?_)
        exact xr_same C hw.1 679 dL_law_604 (by decide) (hK true ad2 u2b hb2 hw.2)
set_option maxHeartbeats 8000000 in
set_option maxRecDepth 200000 in
theorem law_f19 {p : Program} {l : Launch} {e : Env} {s : State} {m : MethodId} {below : List Frame} {meth : Method} {c : Code} {D : va_G} {b L b1 : Nat} {xs : Nat → Int32} {cI cJ cZ : ClassId} {adm : Nat → Nat} {σ00 : xS} (hL : L ≤ 2048) (C : xC True p s m #[.ref b] meth c cL_law 4 RL wsL_law D vwCl (xtys cI cJ cZ) (fun q : Nat => s.heap.size ≤ q)) (hX : va_X b L xs s s.heap) (hbl : b < s.heap.size) {Rel : Bool → xS → Prop} {ad : Nat → Nat} {σ : xS} {i : Int} (hi0 : 0 ≤ i) (hi1 : i + 4 ≤ (L : Int)) (hb1 : ad 0 = b1) (hK : ∀ (P2 : Bool) (ad2 : Nat → Nat) (u : xS), ad2 0 = b1 → Rel P2 u → xX p l e room_1 s m #[.ref b] below meth c D vwCl (fun q : Nat => s.heap.size ≤ q) (wL P2 ad2 adm cI cJ cZ) FL σ00 (cL P2) (sL P2) (lw_Z below #[.ref b] s) 4 u 679 [(0, .ref b), (1, .ref b1), (2, .ref (adm 20)), (3, .int (i32 i))] []) (hw : lawS19 false ((xs (i + 1).toNat).toInt) ((xs (i + 2).toNat).toInt) ((xs (i + 3).toNat).toInt) σ Rel) : xX p l e room_1 s m #[.ref b] below meth c D vwCl (fun q : Nat => s.heap.size ≤ q) (wL false ad adm cI cJ cZ) FL σ00 (cL false) (sL false) (lw_Z below #[.ref b] s) 4 σ 609 [(0, .ref b), (1, .ref b1), (2, .ref (adm 20)), (3, .int (i32 i))] [] := by
  have hbA : ¬ (fun q : Nat => s.heap.size ≤ q) b := Nat.not_le.mpr hbl
  simp only [lawS19] at hw
  refine xr_aload_n C 1 dL_law_609 rfl rfl ?_
  refine xr_aload_n C 0 dL_law_610 rfl rfl ?_
  refine xr_iload_n C 3 dL_law_611 rfl rfl ?_
  refine xr_iconst C dL_law_612 ?_
  refine xr_iadd C dL_law_613 ?_
  refine xr_sld C hX hbl hbA hL (i := (i + 1)) ⟨by omega, by omega⟩ dL_law_614 ?_
  refine xr_aload_n C 0 dL_law_615 rfl rfl ?_
  refine xr_iload_n C 3 dL_law_616 rfl rfl ?_
  refine xr_iconst C dL_law_617 ?_
  refine xr_iadd C dL_law_618 ?_
  refine xr_sld C hX hbl hbA hL (i := (i + 2)) ⟨by omega, by omega⟩ dL_law_619 ?_
  by_cases hbad : (((xs (i + 1).toNat).toInt) < -1 ∨ (((xs (i + 2).toNat).toInt) < 0 ∨ 9 < ((xs (i + 2).toNat).toInt)))
  · have hw := hw.1 hbad
    refine xr_callOi C (ci := 4) (q0 := 0) (As := [.int (i32 ((xs (i + 1).toNat).toInt)), .int (i32 ((xs (i + 2).toNat).toInt))]) (rest := []) (w0 := (wX .null ad cI cJ cZ)) (wM adm cI cJ cZ) (fun _ => rfl) (fun u u2 h => wM_ind h) (by decide) (mX4_measurable (mc := 0) (ms := 0) (w0 := (wX .null ad cI cJ cZ)) (rmP := { frames := 0, cells := 0, slots := 0, locals := 0 }) (RP := RF) hb1 rfl rfl (xSp_rf _ _) (fun u => by rw [← hb1]; rfl) (fun _ _ h => False.elim h) σ ((xs (i + 1).toNat).toInt) ((xs (i + 2).toNat).toInt) _ hw) (cwV 2 C.2.2.2.2.1 gL_law_X4_measurable rfl rfl rfl (by decide +kernel) ⟨(Nat.le_of_ble_eq_true rfl), (Nat.le_of_ble_eq_true rfl)⟩) rfl (by rw [← hb1]; rfl) rfl rfl (Nat.le_of_ble_eq_true rfl) ⟨(Nat.le_of_ble_eq_true rfl), (Nat.le_of_ble_eq_true rfl)⟩ dL_law_620 (fun r1 u1 hw => ?_) (fun r1 u1 ad2 hb2 hw => ?_)
    · have hw := hw.2
      refine xr_aload_n C 2 dL_law_623 rfl rfl ?_
      refine xr_aload_n C 0 dL_law_624 rfl rfl ?_
      refine xr_iload_n C 3 dL_law_625 rfl rfl ?_
      refine xr_iconst C dL_law_626 ?_
      refine xr_iadd C dL_law_627 ?_
      refine xr_sld C hX hbl hbA hL (i := (i + 1)) ⟨by omega, by omega⟩ dL_law_628 ?_
      refine xr_aload_n C 0 dL_law_629 rfl rfl ?_
      refine xr_iload_n C 3 dL_law_630 rfl rfl ?_
      refine xr_iconst C dL_law_631 ?_
      refine xr_iadd C dL_law_632 ?_
      refine xr_sld C hX hbl hbA hL (i := (i + 2)) ⟨by omega, by omega⟩ dL_law_633 ?_
      refine xr_callVi C (ci := 5) (q0 := 0) (As := [.int (i32 ((xs (i + 1).toNat).toInt)), .int (i32 ((xs (i + 2).toNat).toInt))]) (rest := [.int (i32 r1)]) (sp_LN_M ad adm cI cJ cZ) (by decide) (fun _ => trivial) (mX5_measurable u1 ((xs (i + 1).toNat).toInt) ((xs (i + 2).toNat).toInt) _ hw) (cwV 2 C.2.2.2.2.1 gL_law_X5_measurable rfl rfl rfl (by decide +kernel) ⟨(Nat.le_of_ble_eq_true rfl), (Nat.le_of_ble_eq_true rfl)⟩) rfl rfl rfl rfl (Nat.le_of_ble_eq_true rfl) ⟨(Nat.le_of_ble_eq_true rfl), (Nat.le_of_ble_eq_true rfl)⟩ dL_law_634 (fun r2 u2 hw => ?_)
      exact xr_same C hw.1 679 dL_law_637 (by decide) (hK false ad u2 hb1 hw.2)
    · exact absurd hw.1 (by decide)
  · have hw := hw.2 hbad
    refine xr_callOi C (ci := 4) (q0 := 0) (As := [.int (i32 ((xs (i + 1).toNat).toInt)), .int (i32 ((xs (i + 2).toNat).toInt))]) (rest := []) (w0 := (wX .null ad cI cJ cZ)) (wM adm cI cJ cZ) (fun _ => rfl) (fun u u2 h => wM_ind h) (by decide) (mX4_measurable (mc := 6) (ms := 20069) (w0 := (wX .null ad cI cJ cZ)) (rmP := rmRPN) (RP := vRPN) hb1 rfl rfl (xSp_rf _ _) (fun u => by rw [← hb1]; rfl) (fun σ Q h => mRPN hb1 σ Q h) σ ((xs (i + 1).toNat).toInt) ((xs (i + 2).toNat).toInt) _ hw) (cwV 2 C.2.2.2.2.1 gL_law_X4_measurable rfl rfl rfl (by decide +kernel) ⟨(Nat.le_of_ble_eq_true rfl), (Nat.le_of_ble_eq_true rfl)⟩) rfl (by rw [← hb1]; rfl) rfl rfl (Nat.le_of_ble_eq_true rfl) ⟨(Nat.le_of_ble_eq_true rfl), (Nat.le_of_ble_eq_true rfl)⟩ dL_law_620 (fun r1 u1 hw => ?_) (fun r1 u1 ad2 hb2 hw => ?_)
    · exact absurd hw.1 (by decide)
    · have hw := hw.2
      refine xr_world (wL true ad2 adm cI cJ cZ) (fun _ => rfl) ?_
      refine xr_aload_n C 2 dL_law_623 rfl rfl ?_
      refine xr_aload_n C 0 dL_law_624 rfl rfl ?_
      refine xr_iload_n C 3 dL_law_625 rfl rfl ?_
      refine xr_iconst C dL_law_626 ?_
      refine xr_iadd C dL_law_627 ?_
      refine xr_sld C hX hbl hbA hL (i := (i + 1)) ⟨by omega, by omega⟩ dL_law_628 ?_
      refine xr_aload_n C 0 dL_law_629 rfl rfl ?_
      refine xr_iload_n C 3 dL_law_630 rfl rfl ?_
      refine xr_iconst C dL_law_631 ?_
      refine xr_iadd C dL_law_632 ?_
      refine xr_sld C hX hbl hbA hL (i := (i + 2)) ⟨by omega, by omega⟩ dL_law_633 ?_
      refine xr_callVi C (ci := 5) (q0 := 0) (As := [.int (i32 ((xs (i + 1).toNat).toInt)), .int (i32 ((xs (i + 2).toNat).toInt))]) (rest := [.int (i32 r1)]) (sp_LP_M ad2 adm cI cJ cZ) (by decide) (fun _ => trivial) (mX5_measurable u1 ((xs (i + 1).toNat).toInt) ((xs (i + 2).toNat).toInt) _ hw) (cwV 2 C.2.2.2.2.1 gL_law_X5_measurable rfl rfl rfl (by decide +kernel) ⟨(Nat.le_of_ble_eq_true rfl), (Nat.le_of_ble_eq_true rfl)⟩) rfl rfl rfl rfl (Nat.le_of_ble_eq_true rfl) ⟨(Nat.le_of_ble_eq_true rfl), (Nat.le_of_ble_eq_true rfl)⟩ dL_law_634 (fun r2 u2b hw => ?_)
      exact xr_same C hw.1 679 dL_law_637 (by decide) (hK true ad2 u2b hb2 hw.2)
set_option maxHeartbeats 8000000 in
set_option maxRecDepth 200000 in
theorem law_f20 {p : Program} {l : Launch} {e : Env} {s : State} {m : MethodId} {below : List Frame} {meth : Method} {c : Code} {D : va_G} {b L b1 : Nat} {xs : Nat → Int32} {cI cJ cZ : ClassId} {adm : Nat → Nat} {σ00 : xS} (hL : L ≤ 2048) (C : xC True p s m #[.ref b] meth c cL_law 4 RL wsL_law D vwCl (xtys cI cJ cZ) (fun q : Nat => s.heap.size ≤ q)) (hX : va_X b L xs s s.heap) (hbl : b < s.heap.size) {Rel : Bool → xS → Prop} {ad : Nat → Nat} {σ : xS} {i : Int} (hi0 : 0 ≤ i) (hi1 : i + 4 ≤ (L : Int)) (hb1 : ad 0 = b1) (hK : ∀ (P2 : Bool) (ad2 : Nat → Nat) (u : xS), ad2 0 = b1 → Rel P2 u → xX p l e room_1 s m #[.ref b] below meth c D vwCl (fun q : Nat => s.heap.size ≤ q) (wL P2 ad2 adm cI cJ cZ) FL σ00 (cL P2) (sL P2) (lw_Z below #[.ref b] s) 4 u 679 [(0, .ref b), (1, .ref b1), (2, .ref (adm 20)), (3, .int (i32 i))] []) (hw : lawS20 false ((xs (i + 1).toNat).toInt) ((xs (i + 2).toNat).toInt) ((xs (i + 3).toNat).toInt) σ Rel) : xX p l e room_1 s m #[.ref b] below meth c D vwCl (fun q : Nat => s.heap.size ≤ q) (wL false ad adm cI cJ cZ) FL σ00 (cL false) (sL false) (lw_Z below #[.ref b] s) 4 σ 642 [(0, .ref b), (1, .ref b1), (2, .ref (adm 20)), (3, .int (i32 i))] [] := by
  have hbA : ¬ (fun q : Nat => s.heap.size ≤ q) b := Nat.not_le.mpr hbl
  unfold lawS20 at hw
  refine xr_aload_n C 1 dL_law_642 rfl rfl ?_
  refine xr_aload_n C 0 dL_law_643 rfl rfl ?_
  refine xr_iload_n C 3 dL_law_644 rfl rfl ?_
  refine xr_iconst C dL_law_645 ?_
  refine xr_iadd C dL_law_646 ?_
  refine xr_sld C hX hbl hbA hL (i := (i + 1)) ⟨by omega, by omega⟩ dL_law_647 ?_
  refine xr_callVi C (ci := 4) (q0 := 0) (As := [.int (i32 ((xs (i + 1).toNat).toInt))]) (rest := []) (sp_LN_X ad adm cI cJ cZ) (by decide) (fun _ => trivial) (mX4_count σ ((xs (i + 1).toNat).toInt) _ hw) (cwV 1 C.2.2.2.2.1 gL_law_X4_count rfl rfl rfl (by decide +kernel) ⟨(Nat.le_of_ble_eq_true rfl), (Nat.le_of_ble_eq_true rfl)⟩) rfl rfl rfl (by rw [hb1]; rfl) (Nat.le_of_ble_eq_true rfl) ⟨(Nat.le_of_ble_eq_true rfl), (Nat.le_of_ble_eq_true rfl)⟩ dL_law_648 (fun r1 u1 hw => ?_)
  refine xr_aload_n C 2 dL_law_651 rfl rfl ?_
  refine xr_aload_n C 0 dL_law_652 rfl rfl ?_
  refine xr_iload_n C 3 dL_law_653 rfl rfl ?_
  refine xr_iconst C dL_law_654 ?_
  refine xr_iadd C dL_law_655 ?_
  refine xr_sld C hX hbl hbA hL (i := (i + 1)) ⟨by omega, by omega⟩ dL_law_656 ?_
  refine xr_callVi C (ci := 5) (q0 := 0) (As := [.int (i32 ((xs (i + 1).toNat).toInt))]) (rest := [.int (i32 r1)]) (sp_LN_M ad adm cI cJ cZ) (by decide) (fun _ => trivial) (mX5_count u1 ((xs (i + 1).toNat).toInt) _ hw) (cwV 1 C.2.2.2.2.1 gL_law_X5_count rfl rfl rfl (by decide +kernel) ⟨(Nat.le_of_ble_eq_true rfl), (Nat.le_of_ble_eq_true rfl)⟩) rfl rfl rfl rfl (Nat.le_of_ble_eq_true rfl) ⟨(Nat.le_of_ble_eq_true rfl), (Nat.le_of_ble_eq_true rfl)⟩ dL_law_657 (fun r2 u2 hw => ?_)
  exact xr_same C hw.1 679 dL_law_660 (by decide) (hK false ad u2 hb1 hw.2)
set_option maxHeartbeats 8000000 in
set_option maxRecDepth 200000 in
theorem law_f21 {p : Program} {l : Launch} {e : Env} {s : State} {m : MethodId} {below : List Frame} {meth : Method} {c : Code} {D : va_G} {b L b1 : Nat} {xs : Nat → Int32} {cI cJ cZ : ClassId} {adm : Nat → Nat} {σ00 : xS} (hL : L ≤ 2048) (C : xC True p s m #[.ref b] meth c cL_law 4 RL wsL_law D vwCl (xtys cI cJ cZ) (fun q : Nat => s.heap.size ≤ q)) (hX : va_X b L xs s s.heap) (hbl : b < s.heap.size) {Rel : Bool → xS → Prop} {ad : Nat → Nat} {σ : xS} {i : Int} (hi0 : 0 ≤ i) (hi1 : i + 4 ≤ (L : Int)) (hb1 : ad 0 = b1) (hK : ∀ (P2 : Bool) (ad2 : Nat → Nat) (u : xS), ad2 0 = b1 → Rel P2 u → xX p l e room_1 s m #[.ref b] below meth c D vwCl (fun q : Nat => s.heap.size ≤ q) (wL P2 ad2 adm cI cJ cZ) FL σ00 (cL P2) (sL P2) (lw_Z below #[.ref b] s) 4 u 679 [(0, .ref b), (1, .ref b1), (2, .ref (adm 20)), (3, .int (i32 i))] []) (hw : lawS21 false ((xs (i + 1).toNat).toInt) ((xs (i + 2).toNat).toInt) ((xs (i + 3).toNat).toInt) σ Rel) : xX p l e room_1 s m #[.ref b] below meth c D vwCl (fun q : Nat => s.heap.size ≤ q) (wL false ad adm cI cJ cZ) FL σ00 (cL false) (sL false) (lw_Z below #[.ref b] s) 4 σ 665 [(0, .ref b), (1, .ref b1), (2, .ref (adm 20)), (3, .int (i32 i))] [] := by
  have hbA : ¬ (fun q : Nat => s.heap.size ≤ q) b := Nat.not_le.mpr hbl
  simp only [lawS21] at hw
  refine xr_aload_n C 1 dL_law_665 rfl rfl ?_
  refine xr_callOl C (ci := 4) (q0 := 0) (As := []) (rest := []) (w0 := (wX .null ad cI cJ cZ)) (wM adm cI cJ cZ) (fun _ => rfl) (fun u u2 h => wM_ind h) (by decide) (mX4_digest (mc := 6) (ms := 20069) (w0 := (wX .null ad cI cJ cZ)) (rmP := rmRPN) (RP := vRPN) hb1 rfl rfl (xSp_rf _ _) (fun u => by rw [← hb1]; rfl) (fun σ Q h => mRPN hb1 σ Q h) σ _ hw) (cwV 0 C.2.2.2.2.1 gL_law_X4_digest rfl rfl rfl (by decide +kernel) ⟨(Nat.le_of_ble_eq_true rfl), (Nat.le_of_ble_eq_true rfl)⟩) rfl (by rw [← hb1]; rfl) rfl rfl (Nat.le_of_ble_eq_true rfl) ⟨(Nat.le_of_ble_eq_true rfl), (Nat.le_of_ble_eq_true rfl)⟩ dL_law_666 (fun r1 u1 hw => ?_) (fun r1 u1 ad2 hb2 hw => ?_)
  · exact absurd hw.1 (by decide)
  · have hw := hw.2
    refine xr_world (wL true ad2 adm cI cJ cZ) (fun _ => rfl) ?_
    refine xr_aload_n C 2 dL_law_669 rfl rfl ?_
    refine xr_callVl C (ci := 5) (q0 := 0) (As := []) (rest := [.long (i64 r1)]) (sp_LP_M ad2 adm cI cJ cZ) (by decide) (fun _ => trivial) (mX5_digest u1 _ hw) (cwV 0 C.2.2.2.2.1 gL_law_X5_digest rfl rfl rfl (by decide +kernel) ⟨(Nat.le_of_ble_eq_true rfl), (Nat.le_of_ble_eq_true rfl)⟩) rfl rfl rfl rfl (Nat.le_of_ble_eq_true rfl) ⟨(Nat.le_of_ble_eq_true rfl), (Nat.le_of_ble_eq_true rfl)⟩ dL_law_670 (fun r2 u2b hw => ?_)
    obtain ⟨rfl, hw⟩ := hw
    refine xr_lcmp C dL_law_673 ?_
    exact xr_zero C (jlcmp_self _) 679 dL_law_674 (by decide) (hK true ad2 u2b hb2 hw)
set_option maxHeartbeats 8000000 in
set_option maxRecDepth 200000 in
theorem law_t0 {p : Program} {l : Launch} {e : Env} {s : State} {m : MethodId} {below : List Frame} {meth : Method} {c : Code} {D : va_G} {b L b1 : Nat} {xs : Nat → Int32} {cI cJ cZ : ClassId} {adm : Nat → Nat} {σ00 : xS} (hL : L ≤ 2048) (C : xC True p s m #[.ref b] meth c cL_law 4 RL wsL_law D vwCl (xtys cI cJ cZ) (fun q : Nat => s.heap.size ≤ q)) (hX : va_X b L xs s s.heap) (hbl : b < s.heap.size) {Rel : Bool → xS → Prop} {ad : Nat → Nat} {σ : xS} {i : Int} (hi0 : 0 ≤ i) (hi1 : i + 4 ≤ (L : Int)) (hb1 : ad 0 = b1) (hK : ∀ (P2 : Bool) (ad2 : Nat → Nat) (u : xS), ad2 0 = b1 → Rel P2 u → xX p l e room_1 s m #[.ref b] below meth c D vwCl (fun q : Nat => s.heap.size ≤ q) (wL P2 ad2 adm cI cJ cZ) FL σ00 (cL P2) (sL P2) (lw_Z below #[.ref b] s) 4 u 679 [(0, .ref b), (1, .ref b1), (2, .ref (adm 20)), (3, .int (i32 i))] []) (hw : lawS0 true ((xs (i + 1).toNat).toInt) ((xs (i + 2).toNat).toInt) ((xs (i + 3).toNat).toInt) σ Rel) : xX p l e room_1 s m #[.ref b] below meth c D vwCl (fun q : Nat => s.heap.size ≤ q) (wL true ad adm cI cJ cZ) FL σ00 (cL true) (sL true) (lw_Z below #[.ref b] s) 4 σ 136 [(0, .ref b), (1, .ref b1), (2, .ref (adm 20)), (3, .int (i32 i))] [] := by
  have hbA : ¬ (fun q : Nat => s.heap.size ≤ q) b := Nat.not_le.mpr hbl
  unfold lawS0 at hw
  refine xr_aload_n C 1 dL_law_136 rfl rfl ?_
  refine xr_aload_n C 0 dL_law_137 rfl rfl ?_
  refine xr_iload_n C 3 dL_law_138 rfl rfl ?_
  refine xr_iconst C dL_law_139 ?_
  refine xr_iadd C dL_law_140 ?_
  refine xr_sld C hX hbl hbA hL (i := (i + 1)) ⟨by omega, by omega⟩ dL_law_141 ?_
  refine xr_callVi C (ci := 4) (q0 := 0) (As := [.int (i32 ((xs (i + 1).toNat).toInt))]) (rest := []) (sp_LP_X ad adm cI cJ cZ) (by decide) (fun _ => trivial) (mX4_type σ ((xs (i + 1).toNat).toInt) _ hw) (cwV 1 C.2.2.2.2.1 gL_law_X4_type rfl rfl rfl (by decide +kernel) ⟨(Nat.le_of_ble_eq_true rfl), (Nat.le_of_ble_eq_true rfl)⟩) rfl rfl rfl (by rw [hb1]; rfl) (Nat.le_of_ble_eq_true rfl) ⟨(Nat.le_of_ble_eq_true rfl), (Nat.le_of_ble_eq_true rfl)⟩ dL_law_142 (fun r1 u1 hw => ?_)
  refine xr_aload_n C 2 dL_law_145 rfl rfl ?_
  refine xr_aload_n C 0 dL_law_146 rfl rfl ?_
  refine xr_iload_n C 3 dL_law_147 rfl rfl ?_
  refine xr_iconst C dL_law_148 ?_
  refine xr_iadd C dL_law_149 ?_
  refine xr_sld C hX hbl hbA hL (i := (i + 1)) ⟨by omega, by omega⟩ dL_law_150 ?_
  refine xr_callVi C (ci := 5) (q0 := 0) (As := [.int (i32 ((xs (i + 1).toNat).toInt))]) (rest := [.int (i32 r1)]) (sp_LP_M ad adm cI cJ cZ) (by decide) (fun _ => trivial) (mX5_type u1 ((xs (i + 1).toNat).toInt) _ hw) (cwV 1 C.2.2.2.2.1 gL_law_X5_type rfl rfl rfl (by decide +kernel) ⟨(Nat.le_of_ble_eq_true rfl), (Nat.le_of_ble_eq_true rfl)⟩) rfl rfl rfl rfl (Nat.le_of_ble_eq_true rfl) ⟨(Nat.le_of_ble_eq_true rfl), (Nat.le_of_ble_eq_true rfl)⟩ dL_law_151 (fun r2 u2 hw => ?_)
  exact xr_same C hw.1 679 dL_law_154 (by decide) (hK true ad u2 hb1 hw.2)
set_option maxHeartbeats 8000000 in
set_option maxRecDepth 200000 in
theorem law_t1 {p : Program} {l : Launch} {e : Env} {s : State} {m : MethodId} {below : List Frame} {meth : Method} {c : Code} {D : va_G} {b L b1 : Nat} {xs : Nat → Int32} {cI cJ cZ : ClassId} {adm : Nat → Nat} {σ00 : xS} (hL : L ≤ 2048) (C : xC True p s m #[.ref b] meth c cL_law 4 RL wsL_law D vwCl (xtys cI cJ cZ) (fun q : Nat => s.heap.size ≤ q)) (hX : va_X b L xs s s.heap) (hbl : b < s.heap.size) {Rel : Bool → xS → Prop} {ad : Nat → Nat} {σ : xS} {i : Int} (hi0 : 0 ≤ i) (hi1 : i + 4 ≤ (L : Int)) (hb1 : ad 0 = b1) (hK : ∀ (P2 : Bool) (ad2 : Nat → Nat) (u : xS), ad2 0 = b1 → Rel P2 u → xX p l e room_1 s m #[.ref b] below meth c D vwCl (fun q : Nat => s.heap.size ≤ q) (wL P2 ad2 adm cI cJ cZ) FL σ00 (cL P2) (sL P2) (lw_Z below #[.ref b] s) 4 u 679 [(0, .ref b), (1, .ref b1), (2, .ref (adm 20)), (3, .int (i32 i))] []) (hw : lawS1 true ((xs (i + 1).toNat).toInt) ((xs (i + 2).toNat).toInt) ((xs (i + 3).toNat).toInt) σ Rel) : xX p l e room_1 s m #[.ref b] below meth c D vwCl (fun q : Nat => s.heap.size ≤ q) (wL true ad adm cI cJ cZ) FL σ00 (cL true) (sL true) (lw_Z below #[.ref b] s) 4 σ 159 [(0, .ref b), (1, .ref b1), (2, .ref (adm 20)), (3, .int (i32 i))] [] := by
  have hbA : ¬ (fun q : Nat => s.heap.size ≤ q) b := Nat.not_le.mpr hbl
  unfold lawS1 at hw
  refine xr_aload_n C 1 dL_law_159 rfl rfl ?_
  refine xr_callVi C (ci := 4) (q0 := 0) (As := []) (rest := []) (sp_LP_X ad adm cI cJ cZ) (by decide) (fun _ => trivial) (mX4_clearText σ _ hw) (cwV 0 C.2.2.2.2.1 gL_law_X4_clearText rfl rfl rfl (by decide +kernel) ⟨(Nat.le_of_ble_eq_true rfl), (Nat.le_of_ble_eq_true rfl)⟩) rfl rfl rfl (by rw [hb1]; rfl) (Nat.le_of_ble_eq_true rfl) ⟨(Nat.le_of_ble_eq_true rfl), (Nat.le_of_ble_eq_true rfl)⟩ dL_law_160 (fun r1 u1 hw => ?_)
  refine xr_aload_n C 2 dL_law_163 rfl rfl ?_
  refine xr_callVi C (ci := 5) (q0 := 0) (As := []) (rest := [.int (i32 r1)]) (sp_LP_M ad adm cI cJ cZ) (by decide) (fun _ => trivial) (mX5_clearText u1 _ hw) (cwV 0 C.2.2.2.2.1 gL_law_X5_clearText rfl rfl rfl (by decide +kernel) ⟨(Nat.le_of_ble_eq_true rfl), (Nat.le_of_ble_eq_true rfl)⟩) rfl rfl rfl rfl (Nat.le_of_ble_eq_true rfl) ⟨(Nat.le_of_ble_eq_true rfl), (Nat.le_of_ble_eq_true rfl)⟩ dL_law_164 (fun r2 u2 hw => ?_)
  exact xr_same C hw.1 679 dL_law_167 (by decide) (hK true ad u2 hb1 hw.2)
set_option maxHeartbeats 8000000 in
set_option maxRecDepth 200000 in
theorem law_t2 {p : Program} {l : Launch} {e : Env} {s : State} {m : MethodId} {below : List Frame} {meth : Method} {c : Code} {D : va_G} {b L b1 : Nat} {xs : Nat → Int32} {cI cJ cZ : ClassId} {adm : Nat → Nat} {σ00 : xS} (hL : L ≤ 2048) (C : xC True p s m #[.ref b] meth c cL_law 4 RL wsL_law D vwCl (xtys cI cJ cZ) (fun q : Nat => s.heap.size ≤ q)) (hX : va_X b L xs s s.heap) (hbl : b < s.heap.size) {Rel : Bool → xS → Prop} {ad : Nat → Nat} {σ : xS} {i : Int} (hi0 : 0 ≤ i) (hi1 : i + 4 ≤ (L : Int)) (hb1 : ad 0 = b1) (hK : ∀ (P2 : Bool) (ad2 : Nat → Nat) (u : xS), ad2 0 = b1 → Rel P2 u → xX p l e room_1 s m #[.ref b] below meth c D vwCl (fun q : Nat => s.heap.size ≤ q) (wL P2 ad2 adm cI cJ cZ) FL σ00 (cL P2) (sL P2) (lw_Z below #[.ref b] s) 4 u 679 [(0, .ref b), (1, .ref b1), (2, .ref (adm 20)), (3, .int (i32 i))] []) (hw : lawS2 true ((xs (i + 1).toNat).toInt) ((xs (i + 2).toNat).toInt) ((xs (i + 3).toNat).toInt) σ Rel) : xX p l e room_1 s m #[.ref b] below meth c D vwCl (fun q : Nat => s.heap.size ≤ q) (wL true ad adm cI cJ cZ) FL σ00 (cL true) (sL true) (lw_Z below #[.ref b] s) 4 σ 172 [(0, .ref b), (1, .ref b1), (2, .ref (adm 20)), (3, .int (i32 i))] [] := by
  have hbA : ¬ (fun q : Nat => s.heap.size ≤ q) b := Nat.not_le.mpr hbl
  unfold lawS2 at hw
  refine xr_aload_n C 1 dL_law_172 rfl rfl ?_
  refine xr_callVi C (ci := 4) (q0 := 0) (As := []) (rest := []) (sp_LP_X ad adm cI cJ cZ) (by decide) (fun _ => trivial) (mX4_fault σ _ hw) (cwV 0 C.2.2.2.2.1 gL_law_X4_fault rfl rfl rfl (by decide +kernel) ⟨(Nat.le_of_ble_eq_true rfl), (Nat.le_of_ble_eq_true rfl)⟩) rfl rfl rfl (by rw [hb1]; rfl) (Nat.le_of_ble_eq_true rfl) ⟨(Nat.le_of_ble_eq_true rfl), (Nat.le_of_ble_eq_true rfl)⟩ dL_law_173 (fun r1 u1 hw => ?_)
  refine xr_aload_n C 2 dL_law_176 rfl rfl ?_
  refine xr_callVi C (ci := 5) (q0 := 0) (As := []) (rest := [.int (i32 r1)]) (sp_LP_M ad adm cI cJ cZ) (by decide) (fun _ => trivial) (mX5_fault u1 _ hw) (cwV 0 C.2.2.2.2.1 gL_law_X5_fault rfl rfl rfl (by decide +kernel) ⟨(Nat.le_of_ble_eq_true rfl), (Nat.le_of_ble_eq_true rfl)⟩) rfl rfl rfl rfl (Nat.le_of_ble_eq_true rfl) ⟨(Nat.le_of_ble_eq_true rfl), (Nat.le_of_ble_eq_true rfl)⟩ dL_law_177 (fun r2 u2 hw => ?_)
  exact xr_same C hw.1 679 dL_law_180 (by decide) (hK true ad u2 hb1 hw.2)
set_option maxHeartbeats 8000000 in
set_option maxRecDepth 200000 in
theorem law_t3 {p : Program} {l : Launch} {e : Env} {s : State} {m : MethodId} {below : List Frame} {meth : Method} {c : Code} {D : va_G} {b L b1 : Nat} {xs : Nat → Int32} {cI cJ cZ : ClassId} {adm : Nat → Nat} {σ00 : xS} (hL : L ≤ 2048) (C : xC True p s m #[.ref b] meth c cL_law 4 RL wsL_law D vwCl (xtys cI cJ cZ) (fun q : Nat => s.heap.size ≤ q)) (hX : va_X b L xs s s.heap) (hbl : b < s.heap.size) {Rel : Bool → xS → Prop} {ad : Nat → Nat} {σ : xS} {i : Int} (hi0 : 0 ≤ i) (hi1 : i + 4 ≤ (L : Int)) (hb1 : ad 0 = b1) (hK : ∀ (P2 : Bool) (ad2 : Nat → Nat) (u : xS), ad2 0 = b1 → Rel P2 u → xX p l e room_1 s m #[.ref b] below meth c D vwCl (fun q : Nat => s.heap.size ≤ q) (wL P2 ad2 adm cI cJ cZ) FL σ00 (cL P2) (sL P2) (lw_Z below #[.ref b] s) 4 u 679 [(0, .ref b), (1, .ref b1), (2, .ref (adm 20)), (3, .int (i32 i))] []) (hw : lawS3 true ((xs (i + 1).toNat).toInt) ((xs (i + 2).toNat).toInt) ((xs (i + 3).toNat).toInt) σ Rel) : xX p l e room_1 s m #[.ref b] below meth c D vwCl (fun q : Nat => s.heap.size ≤ q) (wL true ad adm cI cJ cZ) FL σ00 (cL true) (sL true) (lw_Z below #[.ref b] s) 4 σ 185 [(0, .ref b), (1, .ref b1), (2, .ref (adm 20)), (3, .int (i32 i))] [] := by
  have hbA : ¬ (fun q : Nat => s.heap.size ≤ q) b := Nat.not_le.mpr hbl
  unfold lawS3 at hw
  refine xr_aload_n C 1 dL_law_185 rfl rfl ?_
  refine xr_aload_n C 0 dL_law_186 rfl rfl ?_
  refine xr_iload_n C 3 dL_law_187 rfl rfl ?_
  refine xr_iconst C dL_law_188 ?_
  refine xr_iadd C dL_law_189 ?_
  refine xr_sld C hX hbl hbA hL (i := (i + 1)) ⟨by omega, by omega⟩ dL_law_190 ?_
  refine xr_callVi C (ci := 4) (q0 := 0) (As := [.int (i32 ((xs (i + 1).toNat).toInt))]) (rest := []) (sp_LP_X ad adm cI cJ cZ) (by decide) (fun _ => trivial) (mX4_setGlasses σ ((xs (i + 1).toNat).toInt) _ hw) (cwV 1 C.2.2.2.2.1 gL_law_X4_setGlasses rfl rfl rfl (by decide +kernel) ⟨(Nat.le_of_ble_eq_true rfl), (Nat.le_of_ble_eq_true rfl)⟩) rfl rfl rfl (by rw [hb1]; rfl) (Nat.le_of_ble_eq_true rfl) ⟨(Nat.le_of_ble_eq_true rfl), (Nat.le_of_ble_eq_true rfl)⟩ dL_law_191 (fun r1 u1 hw => ?_)
  refine xr_aload_n C 2 dL_law_194 rfl rfl ?_
  refine xr_aload_n C 0 dL_law_195 rfl rfl ?_
  refine xr_iload_n C 3 dL_law_196 rfl rfl ?_
  refine xr_iconst C dL_law_197 ?_
  refine xr_iadd C dL_law_198 ?_
  refine xr_sld C hX hbl hbA hL (i := (i + 1)) ⟨by omega, by omega⟩ dL_law_199 ?_
  refine xr_callVi C (ci := 5) (q0 := 0) (As := [.int (i32 ((xs (i + 1).toNat).toInt))]) (rest := [.int (i32 r1)]) (sp_LP_M ad adm cI cJ cZ) (by decide) (fun _ => trivial) (mX5_setGlasses u1 ((xs (i + 1).toNat).toInt) _ hw) (cwV 1 C.2.2.2.2.1 gL_law_X5_setGlasses rfl rfl rfl (by decide +kernel) ⟨(Nat.le_of_ble_eq_true rfl), (Nat.le_of_ble_eq_true rfl)⟩) rfl rfl rfl rfl (Nat.le_of_ble_eq_true rfl) ⟨(Nat.le_of_ble_eq_true rfl), (Nat.le_of_ble_eq_true rfl)⟩ dL_law_200 (fun r2 u2 hw => ?_)
  exact xr_same C hw.1 679 dL_law_203 (by decide) (hK true ad u2 hb1 hw.2)
set_option maxHeartbeats 8000000 in
set_option maxRecDepth 200000 in
theorem law_t4 {p : Program} {l : Launch} {e : Env} {s : State} {m : MethodId} {below : List Frame} {meth : Method} {c : Code} {D : va_G} {b L b1 : Nat} {xs : Nat → Int32} {cI cJ cZ : ClassId} {adm : Nat → Nat} {σ00 : xS} (hL : L ≤ 2048) (C : xC True p s m #[.ref b] meth c cL_law 4 RL wsL_law D vwCl (xtys cI cJ cZ) (fun q : Nat => s.heap.size ≤ q)) (hX : va_X b L xs s s.heap) (hbl : b < s.heap.size) {Rel : Bool → xS → Prop} {ad : Nat → Nat} {σ : xS} {i : Int} (hi0 : 0 ≤ i) (hi1 : i + 4 ≤ (L : Int)) (hb1 : ad 0 = b1) (hK : ∀ (P2 : Bool) (ad2 : Nat → Nat) (u : xS), ad2 0 = b1 → Rel P2 u → xX p l e room_1 s m #[.ref b] below meth c D vwCl (fun q : Nat => s.heap.size ≤ q) (wL P2 ad2 adm cI cJ cZ) FL σ00 (cL P2) (sL P2) (lw_Z below #[.ref b] s) 4 u 679 [(0, .ref b), (1, .ref b1), (2, .ref (adm 20)), (3, .int (i32 i))] []) (hw : lawS4 true ((xs (i + 1).toNat).toInt) ((xs (i + 2).toNat).toInt) ((xs (i + 3).toNat).toInt) σ Rel) : xX p l e room_1 s m #[.ref b] below meth c D vwCl (fun q : Nat => s.heap.size ≤ q) (wL true ad adm cI cJ cZ) FL σ00 (cL true) (sL true) (lw_Z below #[.ref b] s) 4 σ 208 [(0, .ref b), (1, .ref b1), (2, .ref (adm 20)), (3, .int (i32 i))] [] := by
  have hbA : ¬ (fun q : Nat => s.heap.size ≤ q) b := Nat.not_le.mpr hbl
  unfold lawS4 at hw
  refine xr_aload_n C 1 dL_law_208 rfl rfl ?_
  refine xr_aload_n C 0 dL_law_209 rfl rfl ?_
  refine xr_iload_n C 3 dL_law_210 rfl rfl ?_
  refine xr_iconst C dL_law_211 ?_
  refine xr_iadd C dL_law_212 ?_
  refine xr_sld C hX hbl hbA hL (i := (i + 1)) ⟨by omega, by omega⟩ dL_law_213 ?_
  refine xr_aload_n C 0 dL_law_214 rfl rfl ?_
  refine xr_iload_n C 3 dL_law_215 rfl rfl ?_
  refine xr_iconst C dL_law_216 ?_
  refine xr_iadd C dL_law_217 ?_
  refine xr_sld C hX hbl hbA hL (i := (i + 2)) ⟨by omega, by omega⟩ dL_law_218 ?_
  refine xr_callVi C (ci := 4) (q0 := 0) (As := [.int (i32 ((xs (i + 1).toNat).toInt)), .int (i32 ((xs (i + 2).toNat).toInt))]) (rest := []) (sp_LP_X ad adm cI cJ cZ) (by decide) (fun _ => trivial) (mX4_setAmount σ ((xs (i + 1).toNat).toInt) ((xs (i + 2).toNat).toInt) _ hw) (cwV 2 C.2.2.2.2.1 gL_law_X4_setAmount rfl rfl rfl (by decide +kernel) ⟨(Nat.le_of_ble_eq_true rfl), (Nat.le_of_ble_eq_true rfl)⟩) rfl rfl rfl (by rw [hb1]; rfl) (Nat.le_of_ble_eq_true rfl) ⟨(Nat.le_of_ble_eq_true rfl), (Nat.le_of_ble_eq_true rfl)⟩ dL_law_219 (fun r1 u1 hw => ?_)
  refine xr_aload_n C 2 dL_law_222 rfl rfl ?_
  refine xr_aload_n C 0 dL_law_223 rfl rfl ?_
  refine xr_iload_n C 3 dL_law_224 rfl rfl ?_
  refine xr_iconst C dL_law_225 ?_
  refine xr_iadd C dL_law_226 ?_
  refine xr_sld C hX hbl hbA hL (i := (i + 1)) ⟨by omega, by omega⟩ dL_law_227 ?_
  refine xr_aload_n C 0 dL_law_228 rfl rfl ?_
  refine xr_iload_n C 3 dL_law_229 rfl rfl ?_
  refine xr_iconst C dL_law_230 ?_
  refine xr_iadd C dL_law_231 ?_
  refine xr_sld C hX hbl hbA hL (i := (i + 2)) ⟨by omega, by omega⟩ dL_law_232 ?_
  refine xr_callVi C (ci := 5) (q0 := 0) (As := [.int (i32 ((xs (i + 1).toNat).toInt)), .int (i32 ((xs (i + 2).toNat).toInt))]) (rest := [.int (i32 r1)]) (sp_LP_M ad adm cI cJ cZ) (by decide) (fun _ => trivial) (mX5_setAmount u1 ((xs (i + 1).toNat).toInt) ((xs (i + 2).toNat).toInt) _ hw) (cwV 2 C.2.2.2.2.1 gL_law_X5_setAmount rfl rfl rfl (by decide +kernel) ⟨(Nat.le_of_ble_eq_true rfl), (Nat.le_of_ble_eq_true rfl)⟩) rfl rfl rfl rfl (Nat.le_of_ble_eq_true rfl) ⟨(Nat.le_of_ble_eq_true rfl), (Nat.le_of_ble_eq_true rfl)⟩ dL_law_233 (fun r2 u2 hw => ?_)
  exact xr_same C hw.1 679 dL_law_236 (by decide) (hK true ad u2 hb1 hw.2)
set_option maxHeartbeats 8000000 in
set_option maxRecDepth 200000 in
theorem law_t5 {p : Program} {l : Launch} {e : Env} {s : State} {m : MethodId} {below : List Frame} {meth : Method} {c : Code} {D : va_G} {b L b1 : Nat} {xs : Nat → Int32} {cI cJ cZ : ClassId} {adm : Nat → Nat} {σ00 : xS} (hL : L ≤ 2048) (C : xC True p s m #[.ref b] meth c cL_law 4 RL wsL_law D vwCl (xtys cI cJ cZ) (fun q : Nat => s.heap.size ≤ q)) (hX : va_X b L xs s s.heap) (hbl : b < s.heap.size) {Rel : Bool → xS → Prop} {ad : Nat → Nat} {σ : xS} {i : Int} (hi0 : 0 ≤ i) (hi1 : i + 4 ≤ (L : Int)) (hb1 : ad 0 = b1) (hK : ∀ (P2 : Bool) (ad2 : Nat → Nat) (u : xS), ad2 0 = b1 → Rel P2 u → xX p l e room_1 s m #[.ref b] below meth c D vwCl (fun q : Nat => s.heap.size ≤ q) (wL P2 ad2 adm cI cJ cZ) FL σ00 (cL P2) (sL P2) (lw_Z below #[.ref b] s) 4 u 679 [(0, .ref b), (1, .ref b1), (2, .ref (adm 20)), (3, .int (i32 i))] []) (hw : lawS5 true ((xs (i + 1).toNat).toInt) ((xs (i + 2).toNat).toInt) ((xs (i + 3).toNat).toInt) σ Rel) : xX p l e room_1 s m #[.ref b] below meth c D vwCl (fun q : Nat => s.heap.size ≤ q) (wL true ad adm cI cJ cZ) FL σ00 (cL true) (sL true) (lw_Z below #[.ref b] s) 4 σ 241 [(0, .ref b), (1, .ref b1), (2, .ref (adm 20)), (3, .int (i32 i))] [] := by
  have hbA : ¬ (fun q : Nat => s.heap.size ≤ q) b := Nat.not_le.mpr hbl
  unfold lawS5 at hw
  refine xr_aload_n C 1 dL_law_241 rfl rfl ?_
  refine xr_aload_n C 0 dL_law_242 rfl rfl ?_
  refine xr_iload_n C 3 dL_law_243 rfl rfl ?_
  refine xr_iconst C dL_law_244 ?_
  refine xr_iadd C dL_law_245 ?_
  refine xr_sld C hX hbl hbA hL (i := (i + 1)) ⟨by omega, by omega⟩ dL_law_246 ?_
  refine xr_aload_n C 0 dL_law_247 rfl rfl ?_
  refine xr_iload_n C 3 dL_law_248 rfl rfl ?_
  refine xr_iconst C dL_law_249 ?_
  refine xr_iadd C dL_law_250 ?_
  refine xr_sld C hX hbl hbA hL (i := (i + 2)) ⟨by omega, by omega⟩ dL_law_251 ?_
  refine xr_aload_n C 0 dL_law_252 rfl rfl ?_
  refine xr_iload_n C 3 dL_law_253 rfl rfl ?_
  refine xr_iconst C dL_law_254 ?_
  refine xr_iadd C dL_law_255 ?_
  refine xr_sld C hX hbl hbA hL (i := (i + 3)) ⟨by omega, by omega⟩ dL_law_256 ?_
  refine xr_callVi C (ci := 4) (q0 := 0) (As := [.int (i32 ((xs (i + 1).toNat).toInt)), .int (i32 ((xs (i + 2).toNat).toInt)), .int (i32 ((xs (i + 3).toNat).toInt))]) (rest := []) (sp_LP_X ad adm cI cJ cZ) (by decide) (fun _ => trivial) (mX4_setKind σ ((xs (i + 1).toNat).toInt) ((xs (i + 2).toNat).toInt) ((xs (i + 3).toNat).toInt) _ hw) (cwV 3 C.2.2.2.2.1 gL_law_X4_setKind rfl rfl rfl (by decide +kernel) ⟨(Nat.le_of_ble_eq_true rfl), (Nat.le_of_ble_eq_true rfl)⟩) rfl rfl rfl (by rw [hb1]; rfl) (Nat.le_of_ble_eq_true rfl) ⟨(Nat.le_of_ble_eq_true rfl), (Nat.le_of_ble_eq_true rfl)⟩ dL_law_257 (fun r1 u1 hw => ?_)
  refine xr_aload_n C 2 dL_law_260 rfl rfl ?_
  refine xr_aload_n C 0 dL_law_261 rfl rfl ?_
  refine xr_iload_n C 3 dL_law_262 rfl rfl ?_
  refine xr_iconst C dL_law_263 ?_
  refine xr_iadd C dL_law_264 ?_
  refine xr_sld C hX hbl hbA hL (i := (i + 1)) ⟨by omega, by omega⟩ dL_law_265 ?_
  refine xr_aload_n C 0 dL_law_266 rfl rfl ?_
  refine xr_iload_n C 3 dL_law_267 rfl rfl ?_
  refine xr_iconst C dL_law_268 ?_
  refine xr_iadd C dL_law_269 ?_
  refine xr_sld C hX hbl hbA hL (i := (i + 2)) ⟨by omega, by omega⟩ dL_law_270 ?_
  refine xr_aload_n C 0 dL_law_271 rfl rfl ?_
  refine xr_iload_n C 3 dL_law_272 rfl rfl ?_
  refine xr_iconst C dL_law_273 ?_
  refine xr_iadd C dL_law_274 ?_
  refine xr_sld C hX hbl hbA hL (i := (i + 3)) ⟨by omega, by omega⟩ dL_law_275 ?_
  refine xr_callVi C (ci := 5) (q0 := 0) (As := [.int (i32 ((xs (i + 1).toNat).toInt)), .int (i32 ((xs (i + 2).toNat).toInt)), .int (i32 ((xs (i + 3).toNat).toInt))]) (rest := [.int (i32 r1)]) (sp_LP_M ad adm cI cJ cZ) (by decide) (fun _ => trivial) (mX5_setKind u1 ((xs (i + 1).toNat).toInt) ((xs (i + 2).toNat).toInt) ((xs (i + 3).toNat).toInt) _ hw) (cwV 3 C.2.2.2.2.1 gL_law_X5_setKind rfl rfl rfl (by decide +kernel) ⟨(Nat.le_of_ble_eq_true rfl), (Nat.le_of_ble_eq_true rfl)⟩) rfl rfl rfl rfl (Nat.le_of_ble_eq_true rfl) ⟨(Nat.le_of_ble_eq_true rfl), (Nat.le_of_ble_eq_true rfl)⟩ dL_law_276 (fun r2 u2 hw => ?_)
  exact xr_same C hw.1 679 dL_law_279 (by decide) (hK true ad u2 hb1 hw.2)
set_option maxHeartbeats 8000000 in
set_option maxRecDepth 200000 in
theorem law_t6 {p : Program} {l : Launch} {e : Env} {s : State} {m : MethodId} {below : List Frame} {meth : Method} {c : Code} {D : va_G} {b L b1 : Nat} {xs : Nat → Int32} {cI cJ cZ : ClassId} {adm : Nat → Nat} {σ00 : xS} (hL : L ≤ 2048) (C : xC True p s m #[.ref b] meth c cL_law 4 RL wsL_law D vwCl (xtys cI cJ cZ) (fun q : Nat => s.heap.size ≤ q)) (hX : va_X b L xs s s.heap) (hbl : b < s.heap.size) {Rel : Bool → xS → Prop} {ad : Nat → Nat} {σ : xS} {i : Int} (hi0 : 0 ≤ i) (hi1 : i + 4 ≤ (L : Int)) (hb1 : ad 0 = b1) (hK : ∀ (P2 : Bool) (ad2 : Nat → Nat) (u : xS), ad2 0 = b1 → Rel P2 u → xX p l e room_1 s m #[.ref b] below meth c D vwCl (fun q : Nat => s.heap.size ≤ q) (wL P2 ad2 adm cI cJ cZ) FL σ00 (cL P2) (sL P2) (lw_Z below #[.ref b] s) 4 u 679 [(0, .ref b), (1, .ref b1), (2, .ref (adm 20)), (3, .int (i32 i))] []) (hw : lawS6 true ((xs (i + 1).toNat).toInt) ((xs (i + 2).toNat).toInt) ((xs (i + 3).toNat).toInt) σ Rel) : xX p l e room_1 s m #[.ref b] below meth c D vwCl (fun q : Nat => s.heap.size ≤ q) (wL true ad adm cI cJ cZ) FL σ00 (cL true) (sL true) (lw_Z below #[.ref b] s) 4 σ 284 [(0, .ref b), (1, .ref b1), (2, .ref (adm 20)), (3, .int (i32 i))] [] := by
  have hbA : ¬ (fun q : Nat => s.heap.size ≤ q) b := Nat.not_le.mpr hbl
  unfold lawS6 at hw
  refine xr_aload_n C 1 dL_law_284 rfl rfl ?_
  refine xr_aload_n C 0 dL_law_285 rfl rfl ?_
  refine xr_iload_n C 3 dL_law_286 rfl rfl ?_
  refine xr_iconst C dL_law_287 ?_
  refine xr_iadd C dL_law_288 ?_
  refine xr_sld C hX hbl hbA hL (i := (i + 1)) ⟨by omega, by omega⟩ dL_law_289 ?_
  refine xr_aload_n C 0 dL_law_290 rfl rfl ?_
  refine xr_iload_n C 3 dL_law_291 rfl rfl ?_
  refine xr_iconst C dL_law_292 ?_
  refine xr_iadd C dL_law_293 ?_
  refine xr_sld C hX hbl hbA hL (i := (i + 2)) ⟨by omega, by omega⟩ dL_law_294 ?_
  refine xr_callVi C (ci := 4) (q0 := 0) (As := [.int (i32 ((xs (i + 1).toNat).toInt)), .int (i32 ((xs (i + 2).toNat).toInt))]) (rest := []) (sp_LP_X ad adm cI cJ cZ) (by decide) (fun _ => trivial) (mX4_fix σ ((xs (i + 1).toNat).toInt) ((xs (i + 2).toNat).toInt) _ hw) (cwV 2 C.2.2.2.2.1 gL_law_X4_fix rfl rfl rfl (by decide +kernel) ⟨(Nat.le_of_ble_eq_true rfl), (Nat.le_of_ble_eq_true rfl)⟩) rfl rfl rfl (by rw [hb1]; rfl) (Nat.le_of_ble_eq_true rfl) ⟨(Nat.le_of_ble_eq_true rfl), (Nat.le_of_ble_eq_true rfl)⟩ dL_law_295 (fun r1 u1 hw => ?_)
  refine xr_aload_n C 2 dL_law_298 rfl rfl ?_
  refine xr_aload_n C 0 dL_law_299 rfl rfl ?_
  refine xr_iload_n C 3 dL_law_300 rfl rfl ?_
  refine xr_iconst C dL_law_301 ?_
  refine xr_iadd C dL_law_302 ?_
  refine xr_sld C hX hbl hbA hL (i := (i + 1)) ⟨by omega, by omega⟩ dL_law_303 ?_
  refine xr_aload_n C 0 dL_law_304 rfl rfl ?_
  refine xr_iload_n C 3 dL_law_305 rfl rfl ?_
  refine xr_iconst C dL_law_306 ?_
  refine xr_iadd C dL_law_307 ?_
  refine xr_sld C hX hbl hbA hL (i := (i + 2)) ⟨by omega, by omega⟩ dL_law_308 ?_
  refine xr_callVi C (ci := 5) (q0 := 0) (As := [.int (i32 ((xs (i + 1).toNat).toInt)), .int (i32 ((xs (i + 2).toNat).toInt))]) (rest := [.int (i32 r1)]) (sp_LP_M ad adm cI cJ cZ) (by decide) (fun _ => trivial) (mX5_fix u1 ((xs (i + 1).toNat).toInt) ((xs (i + 2).toNat).toInt) _ hw) (cwV 2 C.2.2.2.2.1 gL_law_X5_fix rfl rfl rfl (by decide +kernel) ⟨(Nat.le_of_ble_eq_true rfl), (Nat.le_of_ble_eq_true rfl)⟩) rfl rfl rfl rfl (Nat.le_of_ble_eq_true rfl) ⟨(Nat.le_of_ble_eq_true rfl), (Nat.le_of_ble_eq_true rfl)⟩ dL_law_309 (fun r2 u2 hw => ?_)
  exact xr_same C hw.1 679 dL_law_312 (by decide) (hK true ad u2 hb1 hw.2)
set_option maxHeartbeats 8000000 in
set_option maxRecDepth 200000 in
theorem law_t7 {p : Program} {l : Launch} {e : Env} {s : State} {m : MethodId} {below : List Frame} {meth : Method} {c : Code} {D : va_G} {b L b1 : Nat} {xs : Nat → Int32} {cI cJ cZ : ClassId} {adm : Nat → Nat} {σ00 : xS} (hL : L ≤ 2048) (C : xC True p s m #[.ref b] meth c cL_law 4 RL wsL_law D vwCl (xtys cI cJ cZ) (fun q : Nat => s.heap.size ≤ q)) (hX : va_X b L xs s s.heap) (hbl : b < s.heap.size) {Rel : Bool → xS → Prop} {ad : Nat → Nat} {σ : xS} {i : Int} (hi0 : 0 ≤ i) (hi1 : i + 4 ≤ (L : Int)) (hb1 : ad 0 = b1) (hK : ∀ (P2 : Bool) (ad2 : Nat → Nat) (u : xS), ad2 0 = b1 → Rel P2 u → xX p l e room_1 s m #[.ref b] below meth c D vwCl (fun q : Nat => s.heap.size ≤ q) (wL P2 ad2 adm cI cJ cZ) FL σ00 (cL P2) (sL P2) (lw_Z below #[.ref b] s) 4 u 679 [(0, .ref b), (1, .ref b1), (2, .ref (adm 20)), (3, .int (i32 i))] []) (hw : lawS7 true ((xs (i + 1).toNat).toInt) ((xs (i + 2).toNat).toInt) ((xs (i + 3).toNat).toInt) σ Rel) : xX p l e room_1 s m #[.ref b] below meth c D vwCl (fun q : Nat => s.heap.size ≤ q) (wL true ad adm cI cJ cZ) FL σ00 (cL true) (sL true) (lw_Z below #[.ref b] s) 4 σ 317 [(0, .ref b), (1, .ref b1), (2, .ref (adm 20)), (3, .int (i32 i))] [] := by
  have hbA : ¬ (fun q : Nat => s.heap.size ≤ q) b := Nat.not_le.mpr hbl
  unfold lawS7 at hw
  refine xr_aload_n C 1 dL_law_317 rfl rfl ?_
  refine xr_aload_n C 0 dL_law_318 rfl rfl ?_
  refine xr_iload_n C 3 dL_law_319 rfl rfl ?_
  refine xr_iconst C dL_law_320 ?_
  refine xr_iadd C dL_law_321 ?_
  refine xr_sld C hX hbl hbA hL (i := (i + 1)) ⟨by omega, by omega⟩ dL_law_322 ?_
  refine xr_callVi C (ci := 4) (q0 := 0) (As := [.int (i32 ((xs (i + 1).toNat).toInt))]) (rest := []) (sp_LP_X ad adm cI cJ cZ) (by decide) (fun _ => trivial) (mX4_loosen σ ((xs (i + 1).toNat).toInt) _ hw) (cwV 1 C.2.2.2.2.1 gL_law_X4_loosen rfl rfl rfl (by decide +kernel) ⟨(Nat.le_of_ble_eq_true rfl), (Nat.le_of_ble_eq_true rfl)⟩) rfl rfl rfl (by rw [hb1]; rfl) (Nat.le_of_ble_eq_true rfl) ⟨(Nat.le_of_ble_eq_true rfl), (Nat.le_of_ble_eq_true rfl)⟩ dL_law_323 (fun r1 u1 hw => ?_)
  refine xr_aload_n C 2 dL_law_326 rfl rfl ?_
  refine xr_aload_n C 0 dL_law_327 rfl rfl ?_
  refine xr_iload_n C 3 dL_law_328 rfl rfl ?_
  refine xr_iconst C dL_law_329 ?_
  refine xr_iadd C dL_law_330 ?_
  refine xr_sld C hX hbl hbA hL (i := (i + 1)) ⟨by omega, by omega⟩ dL_law_331 ?_
  refine xr_callVi C (ci := 5) (q0 := 0) (As := [.int (i32 ((xs (i + 1).toNat).toInt))]) (rest := [.int (i32 r1)]) (sp_LP_M ad adm cI cJ cZ) (by decide) (fun _ => trivial) (mX5_loosen u1 ((xs (i + 1).toNat).toInt) _ hw) (cwV 1 C.2.2.2.2.1 gL_law_X5_loosen rfl rfl rfl (by decide +kernel) ⟨(Nat.le_of_ble_eq_true rfl), (Nat.le_of_ble_eq_true rfl)⟩) rfl rfl rfl rfl (Nat.le_of_ble_eq_true rfl) ⟨(Nat.le_of_ble_eq_true rfl), (Nat.le_of_ble_eq_true rfl)⟩ dL_law_332 (fun r2 u2 hw => ?_)
  exact xr_same C hw.1 679 dL_law_335 (by decide) (hK true ad u2 hb1 hw.2)
set_option maxHeartbeats 8000000 in
set_option maxRecDepth 200000 in
theorem law_t8 {p : Program} {l : Launch} {e : Env} {s : State} {m : MethodId} {below : List Frame} {meth : Method} {c : Code} {D : va_G} {b L b1 : Nat} {xs : Nat → Int32} {cI cJ cZ : ClassId} {adm : Nat → Nat} {σ00 : xS} (hL : L ≤ 2048) (C : xC True p s m #[.ref b] meth c cL_law 4 RL wsL_law D vwCl (xtys cI cJ cZ) (fun q : Nat => s.heap.size ≤ q)) (hX : va_X b L xs s s.heap) (hbl : b < s.heap.size) {Rel : Bool → xS → Prop} {ad : Nat → Nat} {σ : xS} {i : Int} (hi0 : 0 ≤ i) (hi1 : i + 4 ≤ (L : Int)) (hb1 : ad 0 = b1) (hK : ∀ (P2 : Bool) (ad2 : Nat → Nat) (u : xS), ad2 0 = b1 → Rel P2 u → xX p l e room_1 s m #[.ref b] below meth c D vwCl (fun q : Nat => s.heap.size ≤ q) (wL P2 ad2 adm cI cJ cZ) FL σ00 (cL P2) (sL P2) (lw_Z below #[.ref b] s) 4 u 679 [(0, .ref b), (1, .ref b1), (2, .ref (adm 20)), (3, .int (i32 i))] []) (hw : lawS8 true ((xs (i + 1).toNat).toInt) ((xs (i + 2).toNat).toInt) ((xs (i + 3).toNat).toInt) σ Rel) : xX p l e room_1 s m #[.ref b] below meth c D vwCl (fun q : Nat => s.heap.size ≤ q) (wL true ad adm cI cJ cZ) FL σ00 (cL true) (sL true) (lw_Z below #[.ref b] s) 4 σ 340 [(0, .ref b), (1, .ref b1), (2, .ref (adm 20)), (3, .int (i32 i))] [] := by
  have hbA : ¬ (fun q : Nat => s.heap.size ≤ q) b := Nat.not_le.mpr hbl
  unfold lawS8 at hw
  refine xr_aload_n C 1 dL_law_340 rfl rfl ?_
  refine xr_aload_n C 0 dL_law_341 rfl rfl ?_
  refine xr_iload_n C 3 dL_law_342 rfl rfl ?_
  refine xr_iconst C dL_law_343 ?_
  refine xr_iadd C dL_law_344 ?_
  refine xr_sld C hX hbl hbA hL (i := (i + 1)) ⟨by omega, by omega⟩ dL_law_345 ?_
  refine xr_callVi C (ci := 4) (q0 := 0) (As := [.int (i32 ((xs (i + 1).toNat).toInt))]) (rest := []) (sp_LP_X ad adm cI cJ cZ) (by decide) (fun _ => trivial) (mX4_turn σ ((xs (i + 1).toNat).toInt) _ hw) (cwV 1 C.2.2.2.2.1 gL_law_X4_turn rfl rfl rfl (by decide +kernel) ⟨(Nat.le_of_ble_eq_true rfl), (Nat.le_of_ble_eq_true rfl)⟩) rfl rfl rfl (by rw [hb1]; rfl) (Nat.le_of_ble_eq_true rfl) ⟨(Nat.le_of_ble_eq_true rfl), (Nat.le_of_ble_eq_true rfl)⟩ dL_law_346 (fun r1 u1 hw => ?_)
  refine xr_aload_n C 2 dL_law_349 rfl rfl ?_
  refine xr_aload_n C 0 dL_law_350 rfl rfl ?_
  refine xr_iload_n C 3 dL_law_351 rfl rfl ?_
  refine xr_iconst C dL_law_352 ?_
  refine xr_iadd C dL_law_353 ?_
  refine xr_sld C hX hbl hbA hL (i := (i + 1)) ⟨by omega, by omega⟩ dL_law_354 ?_
  refine xr_callVi C (ci := 5) (q0 := 0) (As := [.int (i32 ((xs (i + 1).toNat).toInt))]) (rest := [.int (i32 r1)]) (sp_LP_M ad adm cI cJ cZ) (by decide) (fun _ => trivial) (mX5_turn u1 ((xs (i + 1).toNat).toInt) _ hw) (cwV 1 C.2.2.2.2.1 gL_law_X5_turn rfl rfl rfl (by decide +kernel) ⟨(Nat.le_of_ble_eq_true rfl), (Nat.le_of_ble_eq_true rfl)⟩) rfl rfl rfl rfl (Nat.le_of_ble_eq_true rfl) ⟨(Nat.le_of_ble_eq_true rfl), (Nat.le_of_ble_eq_true rfl)⟩ dL_law_355 (fun r2 u2 hw => ?_)
  exact xr_same C hw.1 679 dL_law_358 (by decide) (hK true ad u2 hb1 hw.2)
set_option maxHeartbeats 8000000 in
set_option maxRecDepth 200000 in
theorem law_t9 {p : Program} {l : Launch} {e : Env} {s : State} {m : MethodId} {below : List Frame} {meth : Method} {c : Code} {D : va_G} {b L b1 : Nat} {xs : Nat → Int32} {cI cJ cZ : ClassId} {adm : Nat → Nat} {σ00 : xS} (hL : L ≤ 2048) (C : xC True p s m #[.ref b] meth c cL_law 4 RL wsL_law D vwCl (xtys cI cJ cZ) (fun q : Nat => s.heap.size ≤ q)) (hX : va_X b L xs s s.heap) (hbl : b < s.heap.size) {Rel : Bool → xS → Prop} {ad : Nat → Nat} {σ : xS} {i : Int} (hi0 : 0 ≤ i) (hi1 : i + 4 ≤ (L : Int)) (hb1 : ad 0 = b1) (hK : ∀ (P2 : Bool) (ad2 : Nat → Nat) (u : xS), ad2 0 = b1 → Rel P2 u → xX p l e room_1 s m #[.ref b] below meth c D vwCl (fun q : Nat => s.heap.size ≤ q) (wL P2 ad2 adm cI cJ cZ) FL σ00 (cL P2) (sL P2) (lw_Z below #[.ref b] s) 4 u 679 [(0, .ref b), (1, .ref b1), (2, .ref (adm 20)), (3, .int (i32 i))] []) (hw : lawS9 true ((xs (i + 1).toNat).toInt) ((xs (i + 2).toNat).toInt) ((xs (i + 3).toNat).toInt) σ Rel) : xX p l e room_1 s m #[.ref b] below meth c D vwCl (fun q : Nat => s.heap.size ≤ q) (wL true ad adm cI cJ cZ) FL σ00 (cL true) (sL true) (lw_Z below #[.ref b] s) 4 σ 363 [(0, .ref b), (1, .ref b1), (2, .ref (adm 20)), (3, .int (i32 i))] [] := by
  have hbA : ¬ (fun q : Nat => s.heap.size ≤ q) b := Nat.not_le.mpr hbl
  unfold lawS9 at hw
  refine xr_aload_n C 1 dL_law_363 rfl rfl ?_
  refine xr_aload_n C 0 dL_law_364 rfl rfl ?_
  refine xr_iload_n C 3 dL_law_365 rfl rfl ?_
  refine xr_iconst C dL_law_366 ?_
  refine xr_iadd C dL_law_367 ?_
  refine xr_sld C hX hbl hbA hL (i := (i + 1)) ⟨by omega, by omega⟩ dL_law_368 ?_
  refine xr_callVi C (ci := 4) (q0 := 0) (As := [.int (i32 ((xs (i + 1).toNat).toInt))]) (rest := []) (sp_LP_X ad adm cI cJ cZ) (by decide) (fun _ => trivial) (mX4_tap σ ((xs (i + 1).toNat).toInt) _ hw) (cwV 1 C.2.2.2.2.1 gL_law_X4_tap rfl rfl rfl (by decide +kernel) ⟨(Nat.le_of_ble_eq_true rfl), (Nat.le_of_ble_eq_true rfl)⟩) rfl rfl rfl (by rw [hb1]; rfl) (Nat.le_of_ble_eq_true rfl) ⟨(Nat.le_of_ble_eq_true rfl), (Nat.le_of_ble_eq_true rfl)⟩ dL_law_369 (fun r1 u1 hw => ?_)
  refine xr_aload_n C 2 dL_law_372 rfl rfl ?_
  refine xr_aload_n C 0 dL_law_373 rfl rfl ?_
  refine xr_iload_n C 3 dL_law_374 rfl rfl ?_
  refine xr_iconst C dL_law_375 ?_
  refine xr_iadd C dL_law_376 ?_
  refine xr_sld C hX hbl hbA hL (i := (i + 1)) ⟨by omega, by omega⟩ dL_law_377 ?_
  refine xr_callVi C (ci := 5) (q0 := 0) (As := [.int (i32 ((xs (i + 1).toNat).toInt))]) (rest := [.int (i32 r1)]) (sp_LP_M ad adm cI cJ cZ) (by decide) (fun _ => trivial) (mX5_tap u1 ((xs (i + 1).toNat).toInt) _ hw) (cwV 1 C.2.2.2.2.1 gL_law_X5_tap rfl rfl rfl (by decide +kernel) ⟨(Nat.le_of_ble_eq_true rfl), (Nat.le_of_ble_eq_true rfl)⟩) rfl rfl rfl rfl (Nat.le_of_ble_eq_true rfl) ⟨(Nat.le_of_ble_eq_true rfl), (Nat.le_of_ble_eq_true rfl)⟩ dL_law_378 (fun r2 u2 hw => ?_)
  exact xr_same C hw.1 679 dL_law_381 (by decide) (hK true ad u2 hb1 hw.2)
set_option maxHeartbeats 8000000 in
set_option maxRecDepth 200000 in
theorem law_t10 {p : Program} {l : Launch} {e : Env} {s : State} {m : MethodId} {below : List Frame} {meth : Method} {c : Code} {D : va_G} {b L b1 : Nat} {xs : Nat → Int32} {cI cJ cZ : ClassId} {adm : Nat → Nat} {σ00 : xS} (hL : L ≤ 2048) (C : xC True p s m #[.ref b] meth c cL_law 4 RL wsL_law D vwCl (xtys cI cJ cZ) (fun q : Nat => s.heap.size ≤ q)) (hX : va_X b L xs s s.heap) (hbl : b < s.heap.size) {Rel : Bool → xS → Prop} {ad : Nat → Nat} {σ : xS} {i : Int} (hi0 : 0 ≤ i) (hi1 : i + 4 ≤ (L : Int)) (hb1 : ad 0 = b1) (hK : ∀ (P2 : Bool) (ad2 : Nat → Nat) (u : xS), ad2 0 = b1 → Rel P2 u → xX p l e room_1 s m #[.ref b] below meth c D vwCl (fun q : Nat => s.heap.size ≤ q) (wL P2 ad2 adm cI cJ cZ) FL σ00 (cL P2) (sL P2) (lw_Z below #[.ref b] s) 4 u 679 [(0, .ref b), (1, .ref b1), (2, .ref (adm 20)), (3, .int (i32 i))] []) (hw : lawS10 true ((xs (i + 1).toNat).toInt) ((xs (i + 2).toNat).toInt) ((xs (i + 3).toNat).toInt) σ Rel) : xX p l e room_1 s m #[.ref b] below meth c D vwCl (fun q : Nat => s.heap.size ≤ q) (wL true ad adm cI cJ cZ) FL σ00 (cL true) (sL true) (lw_Z below #[.ref b] s) 4 σ 386 [(0, .ref b), (1, .ref b1), (2, .ref (adm 20)), (3, .int (i32 i))] [] := by
  have hbA : ¬ (fun q : Nat => s.heap.size ≤ q) b := Nat.not_le.mpr hbl
  unfold lawS10 at hw
  refine xr_aload_n C 1 dL_law_386 rfl rfl ?_
  refine xr_aload_n C 0 dL_law_387 rfl rfl ?_
  refine xr_iload_n C 3 dL_law_388 rfl rfl ?_
  refine xr_iconst C dL_law_389 ?_
  refine xr_iadd C dL_law_390 ?_
  refine xr_sld C hX hbl hbA hL (i := (i + 1)) ⟨by omega, by omega⟩ dL_law_391 ?_
  refine xr_callVi C (ci := 4) (q0 := 0) (As := [.int (i32 ((xs (i + 1).toNat).toInt))]) (rest := []) (sp_LP_X ad adm cI cJ cZ) (by decide) (fun _ => trivial) (mX4_pass σ ((xs (i + 1).toNat).toInt) _ hw) (cwV 1 C.2.2.2.2.1 gL_law_X4_pass rfl rfl rfl (by decide +kernel) ⟨(Nat.le_of_ble_eq_true rfl), (Nat.le_of_ble_eq_true rfl)⟩) rfl rfl rfl (by rw [hb1]; rfl) (Nat.le_of_ble_eq_true rfl) ⟨(Nat.le_of_ble_eq_true rfl), (Nat.le_of_ble_eq_true rfl)⟩ dL_law_392 (fun r1 u1 hw => ?_)
  refine xr_aload_n C 2 dL_law_395 rfl rfl ?_
  refine xr_aload_n C 0 dL_law_396 rfl rfl ?_
  refine xr_iload_n C 3 dL_law_397 rfl rfl ?_
  refine xr_iconst C dL_law_398 ?_
  refine xr_iadd C dL_law_399 ?_
  refine xr_sld C hX hbl hbA hL (i := (i + 1)) ⟨by omega, by omega⟩ dL_law_400 ?_
  refine xr_callVi C (ci := 5) (q0 := 0) (As := [.int (i32 ((xs (i + 1).toNat).toInt))]) (rest := [.int (i32 r1)]) (sp_LP_M ad adm cI cJ cZ) (by decide) (fun _ => trivial) (mX5_pass u1 ((xs (i + 1).toNat).toInt) _ hw) (cwV 1 C.2.2.2.2.1 gL_law_X5_pass rfl rfl rfl (by decide +kernel) ⟨(Nat.le_of_ble_eq_true rfl), (Nat.le_of_ble_eq_true rfl)⟩) rfl rfl rfl rfl (Nat.le_of_ble_eq_true rfl) ⟨(Nat.le_of_ble_eq_true rfl), (Nat.le_of_ble_eq_true rfl)⟩ dL_law_401 (fun r2 u2 hw => ?_)
  exact xr_same C hw.1 679 dL_law_404 (by decide) (hK true ad u2 hb1 hw.2)
set_option maxHeartbeats 8000000 in
set_option maxRecDepth 200000 in
theorem law_t11 {p : Program} {l : Launch} {e : Env} {s : State} {m : MethodId} {below : List Frame} {meth : Method} {c : Code} {D : va_G} {b L b1 : Nat} {xs : Nat → Int32} {cI cJ cZ : ClassId} {adm : Nat → Nat} {σ00 : xS} (hL : L ≤ 2048) (C : xC True p s m #[.ref b] meth c cL_law 4 RL wsL_law D vwCl (xtys cI cJ cZ) (fun q : Nat => s.heap.size ≤ q)) (hX : va_X b L xs s s.heap) (hbl : b < s.heap.size) {Rel : Bool → xS → Prop} {ad : Nat → Nat} {σ : xS} {i : Int} (hi0 : 0 ≤ i) (hi1 : i + 4 ≤ (L : Int)) (hb1 : ad 0 = b1) (hK : ∀ (P2 : Bool) (ad2 : Nat → Nat) (u : xS), ad2 0 = b1 → Rel P2 u → xX p l e room_1 s m #[.ref b] below meth c D vwCl (fun q : Nat => s.heap.size ≤ q) (wL P2 ad2 adm cI cJ cZ) FL σ00 (cL P2) (sL P2) (lw_Z below #[.ref b] s) 4 u 679 [(0, .ref b), (1, .ref b1), (2, .ref (adm 20)), (3, .int (i32 i))] []) (hw : lawS11 true ((xs (i + 1).toNat).toInt) ((xs (i + 2).toNat).toInt) ((xs (i + 3).toNat).toInt) σ Rel) : xX p l e room_1 s m #[.ref b] below meth c D vwCl (fun q : Nat => s.heap.size ≤ q) (wL true ad adm cI cJ cZ) FL σ00 (cL true) (sL true) (lw_Z below #[.ref b] s) 4 σ 409 [(0, .ref b), (1, .ref b1), (2, .ref (adm 20)), (3, .int (i32 i))] [] := by
  have hbA : ¬ (fun q : Nat => s.heap.size ≤ q) b := Nat.not_le.mpr hbl
  unfold lawS11 at hw
  refine xr_aload_n C 1 dL_law_409 rfl rfl ?_
  refine xr_callVi C (ci := 4) (q0 := 0) (As := []) (rest := []) (sp_LP_X ad adm cI cJ cZ) (by decide) (fun _ => trivial) (mX4_await σ _ hw) (cwV 0 C.2.2.2.2.1 gL_law_X4_await rfl rfl rfl (by decide +kernel) ⟨(Nat.le_of_ble_eq_true rfl), (Nat.le_of_ble_eq_true rfl)⟩) rfl rfl rfl (by rw [hb1]; rfl) (Nat.le_of_ble_eq_true rfl) ⟨(Nat.le_of_ble_eq_true rfl), (Nat.le_of_ble_eq_true rfl)⟩ dL_law_410 (fun r1 u1 hw => ?_)
  refine xr_aload_n C 2 dL_law_413 rfl rfl ?_
  refine xr_callVi C (ci := 5) (q0 := 0) (As := []) (rest := [.int (i32 r1)]) (sp_LP_M ad adm cI cJ cZ) (by decide) (fun _ => trivial) (mX5_await u1 _ hw) (cwV 0 C.2.2.2.2.1 gL_law_X5_await rfl rfl rfl (by decide +kernel) ⟨(Nat.le_of_ble_eq_true rfl), (Nat.le_of_ble_eq_true rfl)⟩) rfl rfl rfl rfl (Nat.le_of_ble_eq_true rfl) ⟨(Nat.le_of_ble_eq_true rfl), (Nat.le_of_ble_eq_true rfl)⟩ dL_law_414 (fun r2 u2 hw => ?_)
  exact xr_same C hw.1 679 dL_law_417 (by decide) (hK true ad u2 hb1 hw.2)
set_option maxHeartbeats 8000000 in
set_option maxRecDepth 200000 in
theorem law_t12 {p : Program} {l : Launch} {e : Env} {s : State} {m : MethodId} {below : List Frame} {meth : Method} {c : Code} {D : va_G} {b L b1 : Nat} {xs : Nat → Int32} {cI cJ cZ : ClassId} {adm : Nat → Nat} {σ00 : xS} (hL : L ≤ 2048) (C : xC True p s m #[.ref b] meth c cL_law 4 RL wsL_law D vwCl (xtys cI cJ cZ) (fun q : Nat => s.heap.size ≤ q)) (hX : va_X b L xs s s.heap) (hbl : b < s.heap.size) {Rel : Bool → xS → Prop} {ad : Nat → Nat} {σ : xS} {i : Int} (hi0 : 0 ≤ i) (hi1 : i + 4 ≤ (L : Int)) (hb1 : ad 0 = b1) (hK : ∀ (P2 : Bool) (ad2 : Nat → Nat) (u : xS), ad2 0 = b1 → Rel P2 u → xX p l e room_1 s m #[.ref b] below meth c D vwCl (fun q : Nat => s.heap.size ≤ q) (wL P2 ad2 adm cI cJ cZ) FL σ00 (cL P2) (sL P2) (lw_Z below #[.ref b] s) 4 u 679 [(0, .ref b), (1, .ref b1), (2, .ref (adm 20)), (3, .int (i32 i))] []) (hw : lawS12 true ((xs (i + 1).toNat).toInt) ((xs (i + 2).toNat).toInt) ((xs (i + 3).toNat).toInt) σ Rel) : xX p l e room_1 s m #[.ref b] below meth c D vwCl (fun q : Nat => s.heap.size ≤ q) (wL true ad adm cI cJ cZ) FL σ00 (cL true) (sL true) (lw_Z below #[.ref b] s) 4 σ 422 [(0, .ref b), (1, .ref b1), (2, .ref (adm 20)), (3, .int (i32 i))] [] := by
  have hbA : ¬ (fun q : Nat => s.heap.size ≤ q) b := Nat.not_le.mpr hbl
  unfold lawS12 at hw
  refine xr_aload_n C 1 dL_law_422 rfl rfl ?_
  refine xr_callVi C (ci := 4) (q0 := 0) (As := []) (rest := []) (sp_LP_X ad adm cI cJ cZ) (by decide) (fun _ => trivial) (mX4_mark σ _ hw) (cwV 0 C.2.2.2.2.1 gL_law_X4_mark rfl rfl rfl (by decide +kernel) ⟨(Nat.le_of_ble_eq_true rfl), (Nat.le_of_ble_eq_true rfl)⟩) rfl rfl rfl (by rw [hb1]; rfl) (Nat.le_of_ble_eq_true rfl) ⟨(Nat.le_of_ble_eq_true rfl), (Nat.le_of_ble_eq_true rfl)⟩ dL_law_423 (fun r1 u1 hw => ?_)
  refine xr_aload_n C 2 dL_law_426 rfl rfl ?_
  refine xr_callVi C (ci := 5) (q0 := 0) (As := []) (rest := [.int (i32 r1)]) (sp_LP_M ad adm cI cJ cZ) (by decide) (fun _ => trivial) (mX5_mark u1 _ hw) (cwV 0 C.2.2.2.2.1 gL_law_X5_mark rfl rfl rfl (by decide +kernel) ⟨(Nat.le_of_ble_eq_true rfl), (Nat.le_of_ble_eq_true rfl)⟩) rfl rfl rfl rfl (Nat.le_of_ble_eq_true rfl) ⟨(Nat.le_of_ble_eq_true rfl), (Nat.le_of_ble_eq_true rfl)⟩ dL_law_427 (fun r2 u2 hw => ?_)
  exact xr_same C hw.1 679 dL_law_430 (by decide) (hK true ad u2 hb1 hw.2)
set_option maxHeartbeats 8000000 in
set_option maxRecDepth 200000 in
theorem law_t13 {p : Program} {l : Launch} {e : Env} {s : State} {m : MethodId} {below : List Frame} {meth : Method} {c : Code} {D : va_G} {b L b1 : Nat} {xs : Nat → Int32} {cI cJ cZ : ClassId} {adm : Nat → Nat} {σ00 : xS} (hL : L ≤ 2048) (C : xC True p s m #[.ref b] meth c cL_law 4 RL wsL_law D vwCl (xtys cI cJ cZ) (fun q : Nat => s.heap.size ≤ q)) (hX : va_X b L xs s s.heap) (hbl : b < s.heap.size) {Rel : Bool → xS → Prop} {ad : Nat → Nat} {σ : xS} {i : Int} (hi0 : 0 ≤ i) (hi1 : i + 4 ≤ (L : Int)) (hb1 : ad 0 = b1) (hK : ∀ (P2 : Bool) (ad2 : Nat → Nat) (u : xS), ad2 0 = b1 → Rel P2 u → xX p l e room_1 s m #[.ref b] below meth c D vwCl (fun q : Nat => s.heap.size ≤ q) (wL P2 ad2 adm cI cJ cZ) FL σ00 (cL P2) (sL P2) (lw_Z below #[.ref b] s) 4 u 679 [(0, .ref b), (1, .ref b1), (2, .ref (adm 20)), (3, .int (i32 i))] []) (hw : lawS13 true ((xs (i + 1).toNat).toInt) ((xs (i + 2).toNat).toInt) ((xs (i + 3).toNat).toInt) σ Rel) : xX p l e room_1 s m #[.ref b] below meth c D vwCl (fun q : Nat => s.heap.size ≤ q) (wL true ad adm cI cJ cZ) FL σ00 (cL true) (sL true) (lw_Z below #[.ref b] s) 4 σ 435 [(0, .ref b), (1, .ref b1), (2, .ref (adm 20)), (3, .int (i32 i))] [] := by
  have hbA : ¬ (fun q : Nat => s.heap.size ≤ q) b := Nat.not_le.mpr hbl
  unfold lawS13 at hw
  refine xr_aload_n C 1 dL_law_435 rfl rfl ?_
  refine xr_callVi C (ci := 4) (q0 := 0) (As := []) (rest := []) (sp_LP_X ad adm cI cJ cZ) (by decide) (fun _ => trivial) (mX4_run σ _ hw) (cwV 0 C.2.2.2.2.1 gL_law_X4_run rfl rfl rfl (by decide +kernel) ⟨(Nat.le_of_ble_eq_true rfl), (Nat.le_of_ble_eq_true rfl)⟩) rfl rfl rfl (by rw [hb1]; rfl) (Nat.le_of_ble_eq_true rfl) ⟨(Nat.le_of_ble_eq_true rfl), (Nat.le_of_ble_eq_true rfl)⟩ dL_law_436 (fun r1 u1 hw => ?_)
  refine xr_aload_n C 2 dL_law_439 rfl rfl ?_
  refine xr_callVi C (ci := 5) (q0 := 0) (As := []) (rest := [.int (i32 r1)]) (sp_LP_M ad adm cI cJ cZ) (by decide) (fun _ => trivial) (mX5_run u1 _ hw) (cwV 0 C.2.2.2.2.1 gL_law_X5_run rfl rfl rfl (by decide +kernel) ⟨(Nat.le_of_ble_eq_true rfl), (Nat.le_of_ble_eq_true rfl)⟩) rfl rfl rfl rfl (Nat.le_of_ble_eq_true rfl) ⟨(Nat.le_of_ble_eq_true rfl), (Nat.le_of_ble_eq_true rfl)⟩ dL_law_440 (fun r2 u2 hw => ?_)
  exact xr_same C hw.1 679 dL_law_443 (by decide) (hK true ad u2 hb1 hw.2)
set_option maxHeartbeats 8000000 in
set_option maxRecDepth 200000 in
theorem law_t14 {p : Program} {l : Launch} {e : Env} {s : State} {m : MethodId} {below : List Frame} {meth : Method} {c : Code} {D : va_G} {b L b1 : Nat} {xs : Nat → Int32} {cI cJ cZ : ClassId} {adm : Nat → Nat} {σ00 : xS} (hL : L ≤ 2048) (C : xC True p s m #[.ref b] meth c cL_law 4 RL wsL_law D vwCl (xtys cI cJ cZ) (fun q : Nat => s.heap.size ≤ q)) (hX : va_X b L xs s s.heap) (hbl : b < s.heap.size) {Rel : Bool → xS → Prop} {ad : Nat → Nat} {σ : xS} {i : Int} (hi0 : 0 ≤ i) (hi1 : i + 4 ≤ (L : Int)) (hb1 : ad 0 = b1) (hK : ∀ (P2 : Bool) (ad2 : Nat → Nat) (u : xS), ad2 0 = b1 → Rel P2 u → xX p l e room_1 s m #[.ref b] below meth c D vwCl (fun q : Nat => s.heap.size ≤ q) (wL P2 ad2 adm cI cJ cZ) FL σ00 (cL P2) (sL P2) (lw_Z below #[.ref b] s) 4 u 679 [(0, .ref b), (1, .ref b1), (2, .ref (adm 20)), (3, .int (i32 i))] []) (hw : lawS14 true ((xs (i + 1).toNat).toInt) ((xs (i + 2).toNat).toInt) ((xs (i + 3).toNat).toInt) σ Rel) : xX p l e room_1 s m #[.ref b] below meth c D vwCl (fun q : Nat => s.heap.size ≤ q) (wL true ad adm cI cJ cZ) FL σ00 (cL true) (sL true) (lw_Z below #[.ref b] s) 4 σ 448 [(0, .ref b), (1, .ref b1), (2, .ref (adm 20)), (3, .int (i32 i))] [] := by
  have hbA : ¬ (fun q : Nat => s.heap.size ≤ q) b := Nat.not_le.mpr hbl
  unfold lawS14 at hw
  refine xr_aload_n C 1 dL_law_448 rfl rfl ?_
  refine xr_callVi C (ci := 4) (q0 := 0) (As := []) (rest := []) (sp_LP_X ad adm cI cJ cZ) (by decide) (fun _ => trivial) (mX4_undo σ _ hw) (cwV 0 C.2.2.2.2.1 gL_law_X4_undo rfl rfl rfl (by decide +kernel) ⟨(Nat.le_of_ble_eq_true rfl), (Nat.le_of_ble_eq_true rfl)⟩) rfl rfl rfl (by rw [hb1]; rfl) (Nat.le_of_ble_eq_true rfl) ⟨(Nat.le_of_ble_eq_true rfl), (Nat.le_of_ble_eq_true rfl)⟩ dL_law_449 (fun r1 u1 hw => ?_)
  refine xr_aload_n C 2 dL_law_452 rfl rfl ?_
  refine xr_callVi C (ci := 5) (q0 := 0) (As := []) (rest := [.int (i32 r1)]) (sp_LP_M ad adm cI cJ cZ) (by decide) (fun _ => trivial) (mX5_undo u1 _ hw) (cwV 0 C.2.2.2.2.1 gL_law_X5_undo rfl rfl rfl (by decide +kernel) ⟨(Nat.le_of_ble_eq_true rfl), (Nat.le_of_ble_eq_true rfl)⟩) rfl rfl rfl rfl (Nat.le_of_ble_eq_true rfl) ⟨(Nat.le_of_ble_eq_true rfl), (Nat.le_of_ble_eq_true rfl)⟩ dL_law_453 (fun r2 u2 hw => ?_)
  exact xr_same C hw.1 679 dL_law_456 (by decide) (hK true ad u2 hb1 hw.2)
set_option maxHeartbeats 8000000 in
set_option maxRecDepth 200000 in
theorem law_t15 {p : Program} {l : Launch} {e : Env} {s : State} {m : MethodId} {below : List Frame} {meth : Method} {c : Code} {D : va_G} {b L b1 : Nat} {xs : Nat → Int32} {cI cJ cZ : ClassId} {adm : Nat → Nat} {σ00 : xS} (hL : L ≤ 2048) (C : xC True p s m #[.ref b] meth c cL_law 4 RL wsL_law D vwCl (xtys cI cJ cZ) (fun q : Nat => s.heap.size ≤ q)) (hX : va_X b L xs s s.heap) (hbl : b < s.heap.size) {Rel : Bool → xS → Prop} {ad : Nat → Nat} {σ : xS} {i : Int} (hi0 : 0 ≤ i) (hi1 : i + 4 ≤ (L : Int)) (hb1 : ad 0 = b1) (hK : ∀ (P2 : Bool) (ad2 : Nat → Nat) (u : xS), ad2 0 = b1 → Rel P2 u → xX p l e room_1 s m #[.ref b] below meth c D vwCl (fun q : Nat => s.heap.size ≤ q) (wL P2 ad2 adm cI cJ cZ) FL σ00 (cL P2) (sL P2) (lw_Z below #[.ref b] s) 4 u 679 [(0, .ref b), (1, .ref b1), (2, .ref (adm 20)), (3, .int (i32 i))] []) (hw : lawS15 true ((xs (i + 1).toNat).toInt) ((xs (i + 2).toNat).toInt) ((xs (i + 3).toNat).toInt) σ Rel) : xX p l e room_1 s m #[.ref b] below meth c D vwCl (fun q : Nat => s.heap.size ≤ q) (wL true ad adm cI cJ cZ) FL σ00 (cL true) (sL true) (lw_Z below #[.ref b] s) 4 σ 461 [(0, .ref b), (1, .ref b1), (2, .ref (adm 20)), (3, .int (i32 i))] [] := by
  have hbA : ¬ (fun q : Nat => s.heap.size ≤ q) b := Nat.not_le.mpr hbl
  unfold lawS15 at hw
  refine xr_aload_n C 1 dL_law_461 rfl rfl ?_
  refine xr_aload_n C 0 dL_law_462 rfl rfl ?_
  refine xr_iload_n C 3 dL_law_463 rfl rfl ?_
  refine xr_iconst C dL_law_464 ?_
  refine xr_iadd C dL_law_465 ?_
  refine xr_sld C hX hbl hbA hL (i := (i + 1)) ⟨by omega, by omega⟩ dL_law_466 ?_
  refine xr_aload_n C 0 dL_law_467 rfl rfl ?_
  refine xr_iload_n C 3 dL_law_468 rfl rfl ?_
  refine xr_iconst C dL_law_469 ?_
  refine xr_iadd C dL_law_470 ?_
  refine xr_sld C hX hbl hbA hL (i := (i + 2)) ⟨by omega, by omega⟩ dL_law_471 ?_
  refine xr_callVi C (ci := 4) (q0 := 0) (As := [.int (i32 ((xs (i + 1).toNat).toInt)), .int (i32 ((xs (i + 2).toNat).toInt))]) (rest := []) (sp_LP_X ad adm cI cJ cZ) (by decide) (fun _ => trivial) (mX4_glass σ ((xs (i + 1).toNat).toInt) ((xs (i + 2).toNat).toInt) _ hw) (cwV 2 C.2.2.2.2.1 gL_law_X4_glass rfl rfl rfl (by decide +kernel) ⟨(Nat.le_of_ble_eq_true rfl), (Nat.le_of_ble_eq_true rfl)⟩) rfl rfl rfl (by rw [hb1]; rfl) (Nat.le_of_ble_eq_true rfl) ⟨(Nat.le_of_ble_eq_true rfl), (Nat.le_of_ble_eq_true rfl)⟩ dL_law_472 (fun r1 u1 hw => ?_)
  refine xr_aload_n C 2 dL_law_475 rfl rfl ?_
  refine xr_aload_n C 0 dL_law_476 rfl rfl ?_
  refine xr_iload_n C 3 dL_law_477 rfl rfl ?_
  refine xr_iconst C dL_law_478 ?_
  refine xr_iadd C dL_law_479 ?_
  refine xr_sld C hX hbl hbA hL (i := (i + 1)) ⟨by omega, by omega⟩ dL_law_480 ?_
  refine xr_aload_n C 0 dL_law_481 rfl rfl ?_
  refine xr_iload_n C 3 dL_law_482 rfl rfl ?_
  refine xr_iconst C dL_law_483 ?_
  refine xr_iadd C dL_law_484 ?_
  refine xr_sld C hX hbl hbA hL (i := (i + 2)) ⟨by omega, by omega⟩ dL_law_485 ?_
  refine xr_callVi C (ci := 5) (q0 := 0) (As := [.int (i32 ((xs (i + 1).toNat).toInt)), .int (i32 ((xs (i + 2).toNat).toInt))]) (rest := [.int (i32 r1)]) (sp_LP_M ad adm cI cJ cZ) (by decide) (fun _ => trivial) (mX5_glass u1 ((xs (i + 1).toNat).toInt) ((xs (i + 2).toNat).toInt) _ hw) (cwV 2 C.2.2.2.2.1 gL_law_X5_glass rfl rfl rfl (by decide +kernel) ⟨(Nat.le_of_ble_eq_true rfl), (Nat.le_of_ble_eq_true rfl)⟩) rfl rfl rfl rfl (Nat.le_of_ble_eq_true rfl) ⟨(Nat.le_of_ble_eq_true rfl), (Nat.le_of_ble_eq_true rfl)⟩ dL_law_486 (fun r2 u2 hw => ?_)
  exact xr_same C hw.1 679 dL_law_489 (by decide) (hK true ad u2 hb1 hw.2)
set_option maxHeartbeats 8000000 in
set_option maxRecDepth 200000 in
theorem law_t16 {p : Program} {l : Launch} {e : Env} {s : State} {m : MethodId} {below : List Frame} {meth : Method} {c : Code} {D : va_G} {b L b1 : Nat} {xs : Nat → Int32} {cI cJ cZ : ClassId} {adm : Nat → Nat} {σ00 : xS} (hL : L ≤ 2048) (C : xC True p s m #[.ref b] meth c cL_law 4 RL wsL_law D vwCl (xtys cI cJ cZ) (fun q : Nat => s.heap.size ≤ q)) (hX : va_X b L xs s s.heap) (hbl : b < s.heap.size) {Rel : Bool → xS → Prop} {ad : Nat → Nat} {σ : xS} {i : Int} (hi0 : 0 ≤ i) (hi1 : i + 4 ≤ (L : Int)) (hb1 : ad 0 = b1) (hK : ∀ (P2 : Bool) (ad2 : Nat → Nat) (u : xS), ad2 0 = b1 → Rel P2 u → xX p l e room_1 s m #[.ref b] below meth c D vwCl (fun q : Nat => s.heap.size ≤ q) (wL P2 ad2 adm cI cJ cZ) FL σ00 (cL P2) (sL P2) (lw_Z below #[.ref b] s) 4 u 679 [(0, .ref b), (1, .ref b1), (2, .ref (adm 20)), (3, .int (i32 i))] []) (hw : lawS16 true ((xs (i + 1).toNat).toInt) ((xs (i + 2).toNat).toInt) ((xs (i + 3).toNat).toInt) σ Rel) : xX p l e room_1 s m #[.ref b] below meth c D vwCl (fun q : Nat => s.heap.size ≤ q) (wL true ad adm cI cJ cZ) FL σ00 (cL true) (sL true) (lw_Z below #[.ref b] s) 4 σ 494 [(0, .ref b), (1, .ref b1), (2, .ref (adm 20)), (3, .int (i32 i))] [] := by
  have hbA : ¬ (fun q : Nat => s.heap.size ≤ q) b := Nat.not_le.mpr hbl
  unfold lawS16 at hw
  refine xr_aload_n C 1 dL_law_494 rfl rfl ?_
  refine xr_aload_n C 0 dL_law_495 rfl rfl ?_
  refine xr_iload_n C 3 dL_law_496 rfl rfl ?_
  refine xr_iconst C dL_law_497 ?_
  refine xr_iadd C dL_law_498 ?_
  refine xr_sld C hX hbl hbA hL (i := (i + 1)) ⟨by omega, by omega⟩ dL_law_499 ?_
  refine xr_aload_n C 0 dL_law_500 rfl rfl ?_
  refine xr_iload_n C 3 dL_law_501 rfl rfl ?_
  refine xr_iconst C dL_law_502 ?_
  refine xr_iadd C dL_law_503 ?_
  refine xr_sld C hX hbl hbA hL (i := (i + 2)) ⟨by omega, by omega⟩ dL_law_504 ?_
  refine xr_callVi C (ci := 4) (q0 := 0) (As := [.int (i32 ((xs (i + 1).toNat).toInt)), .int (i32 ((xs (i + 2).toNat).toInt))]) (rest := []) (sp_LP_X ad adm cI cJ cZ) (by decide) (fun _ => trivial) (mX4_event σ ((xs (i + 1).toNat).toInt) ((xs (i + 2).toNat).toInt) _ hw) (cwV 2 C.2.2.2.2.1 gL_law_X4_event rfl rfl rfl (by decide +kernel) ⟨(Nat.le_of_ble_eq_true rfl), (Nat.le_of_ble_eq_true rfl)⟩) rfl rfl rfl (by rw [hb1]; rfl) (Nat.le_of_ble_eq_true rfl) ⟨(Nat.le_of_ble_eq_true rfl), (Nat.le_of_ble_eq_true rfl)⟩ dL_law_505 (fun r1 u1 hw => ?_)
  refine xr_aload_n C 2 dL_law_508 rfl rfl ?_
  refine xr_aload_n C 0 dL_law_509 rfl rfl ?_
  refine xr_iload_n C 3 dL_law_510 rfl rfl ?_
  refine xr_iconst C dL_law_511 ?_
  refine xr_iadd C dL_law_512 ?_
  refine xr_sld C hX hbl hbA hL (i := (i + 1)) ⟨by omega, by omega⟩ dL_law_513 ?_
  refine xr_aload_n C 0 dL_law_514 rfl rfl ?_
  refine xr_iload_n C 3 dL_law_515 rfl rfl ?_
  refine xr_iconst C dL_law_516 ?_
  refine xr_iadd C dL_law_517 ?_
  refine xr_sld C hX hbl hbA hL (i := (i + 2)) ⟨by omega, by omega⟩ dL_law_518 ?_
  refine xr_callVi C (ci := 5) (q0 := 0) (As := [.int (i32 ((xs (i + 1).toNat).toInt)), .int (i32 ((xs (i + 2).toNat).toInt))]) (rest := [.int (i32 r1)]) (sp_LP_M ad adm cI cJ cZ) (by decide) (fun _ => trivial) (mX5_event u1 ((xs (i + 1).toNat).toInt) ((xs (i + 2).toNat).toInt) _ hw) (cwV 2 C.2.2.2.2.1 gL_law_X5_event rfl rfl rfl (by decide +kernel) ⟨(Nat.le_of_ble_eq_true rfl), (Nat.le_of_ble_eq_true rfl)⟩) rfl rfl rfl rfl (Nat.le_of_ble_eq_true rfl) ⟨(Nat.le_of_ble_eq_true rfl), (Nat.le_of_ble_eq_true rfl)⟩ dL_law_519 (fun r2 u2 hw => ?_)
  exact xr_same C hw.1 679 dL_law_522 (by decide) (hK true ad u2 hb1 hw.2)
set_option maxHeartbeats 8000000 in
set_option maxRecDepth 200000 in
theorem law_t17 {p : Program} {l : Launch} {e : Env} {s : State} {m : MethodId} {below : List Frame} {meth : Method} {c : Code} {D : va_G} {b L b1 : Nat} {xs : Nat → Int32} {cI cJ cZ : ClassId} {adm : Nat → Nat} {σ00 : xS} (hL : L ≤ 2048) (C : xC True p s m #[.ref b] meth c cL_law 4 RL wsL_law D vwCl (xtys cI cJ cZ) (fun q : Nat => s.heap.size ≤ q)) (hX : va_X b L xs s s.heap) (hbl : b < s.heap.size) {Rel : Bool → xS → Prop} {ad : Nat → Nat} {σ : xS} {i : Int} (hi0 : 0 ≤ i) (hi1 : i + 4 ≤ (L : Int)) (hb1 : ad 0 = b1) (hK : ∀ (P2 : Bool) (ad2 : Nat → Nat) (u : xS), ad2 0 = b1 → Rel P2 u → xX p l e room_1 s m #[.ref b] below meth c D vwCl (fun q : Nat => s.heap.size ≤ q) (wL P2 ad2 adm cI cJ cZ) FL σ00 (cL P2) (sL P2) (lw_Z below #[.ref b] s) 4 u 679 [(0, .ref b), (1, .ref b1), (2, .ref (adm 20)), (3, .int (i32 i))] []) (hw : lawS17 true ((xs (i + 1).toNat).toInt) ((xs (i + 2).toNat).toInt) ((xs (i + 3).toNat).toInt) σ Rel) : xX p l e room_1 s m #[.ref b] below meth c D vwCl (fun q : Nat => s.heap.size ≤ q) (wL true ad adm cI cJ cZ) FL σ00 (cL true) (sL true) (lw_Z below #[.ref b] s) 4 σ 527 [(0, .ref b), (1, .ref b1), (2, .ref (adm 20)), (3, .int (i32 i))] [] := by
  have hbA : ¬ (fun q : Nat => s.heap.size ≤ q) b := Nat.not_le.mpr hbl
  simp only [lawS17] at hw
  refine xr_aload_n C 1 dL_law_527 rfl rfl ?_
  refine xr_aload_n C 0 dL_law_528 rfl rfl ?_
  refine xr_iload_n C 3 dL_law_529 rfl rfl ?_
  refine xr_iconst C dL_law_530 ?_
  refine xr_iadd C dL_law_531 ?_
  refine xr_sld C hX hbl hbA hL (i := (i + 1)) ⟨by omega, by omega⟩ dL_law_532 ?_
  refine xr_callOi C (ci := 4) (q0 := 0) (As := [.int (i32 ((xs (i + 1).toNat).toInt))]) (rest := []) (w0 := (wXP (.ref (ad 9)) ad cI cJ cZ)) (wM adm cI cJ cZ) (fun _ => rfl) (fun u u2 h => wM_ind h) (by decide) (mX4_cost (mc := 0) (ms := 0) (w0 := (wXP (.ref (ad 9)) ad cI cJ cZ)) (rmP := rmRPP) (RP := vRPP) hb1 rfl rfl (sp_wXP_wX (.ref (ad 9)) ad cI cJ cZ) (fun u => by rw [← hb1]; rfl) (fun σ Q h => mRPP hb1 σ Q h) σ ((xs (i + 1).toNat).toInt) _ hw) (cwV 1 C.2.2.2.2.1 gL_law_X4_cost rfl rfl rfl (by decide +kernel) ⟨(Nat.le_of_ble_eq_true rfl), (Nat.le_of_ble_eq_true rfl)⟩) rfl (by rw [← hb1]; rfl) rfl rfl (Nat.le_of_ble_eq_true rfl) ⟨(Nat.le_of_ble_eq_true rfl), (Nat.le_of_ble_eq_true rfl)⟩ dL_law_533 (fun r1 u1 hw => ?_) (fun r1 u1 ad2 hb2 hw => ?_)
  · refine xr_aload_n C 2 dL_law_536 rfl rfl ?_
    refine xr_aload_n C 0 dL_law_537 rfl rfl ?_
    refine xr_iload_n C 3 dL_law_538 rfl rfl ?_
    refine xr_iconst C dL_law_539 ?_
    refine xr_iadd C dL_law_540 ?_
    refine xr_sld C hX hbl hbA hL (i := (i + 1)) ⟨by omega, by omega⟩ dL_law_541 ?_
    refine xr_callVi C (ci := 5) (q0 := 0) (As := [.int (i32 ((xs (i + 1).toNat).toInt))]) (rest := [.int (i32 r1)]) (sp_LP_M ad adm cI cJ cZ) (by decide) (fun _ => trivial) (mX5_cost u1 ((xs (i + 1).toNat).toInt) _ hw) (cwV 1 C.2.2.2.2.1 gL_law_X5_cost rfl rfl rfl (by decide +kernel) ⟨(Nat.le_of_ble_eq_true rfl), (Nat.le_of_ble_eq_true rfl)⟩) rfl rfl rfl rfl (Nat.le_of_ble_eq_true rfl) ⟨(Nat.le_of_ble_eq_true rfl), (Nat.le_of_ble_eq_true rfl)⟩ dL_law_542 (fun r2 u2 hw => ?_)
    exact xr_same C hw.1 679 dL_law_545 (by decide) (hK true ad u2 hb1 hw.2)
  · refine xr_world (wL true ad2 adm cI cJ cZ) (fun _ => rfl) ?_
    refine xr_aload_n C 2 dL_law_536 rfl rfl ?_
    refine xr_aload_n C 0 dL_law_537 rfl rfl ?_
    refine xr_iload_n C 3 dL_law_538 rfl rfl ?_
    refine xr_iconst C dL_law_539 ?_
    refine xr_iadd C dL_law_540 ?_
    refine xr_sld C hX hbl hbA hL (i := (i + 1)) ⟨by omega, by omega⟩ dL_law_541 ?_
    refine xr_callVi C (ci := 5) (q0 := 0) (As := [.int (i32 ((xs (i + 1).toNat).toInt))]) (rest := [.int (i32 r1)]) (sp_LP_M ad2 adm cI cJ cZ) (by decide) (fun _ => trivial) (mX5_cost u1 ((xs (i + 1).toNat).toInt) _ hw) (cwV 1 C.2.2.2.2.1 gL_law_X5_cost rfl rfl rfl (by decide +kernel) ⟨(Nat.le_of_ble_eq_true rfl), (Nat.le_of_ble_eq_true rfl)⟩) rfl rfl rfl rfl (Nat.le_of_ble_eq_true rfl) ⟨(Nat.le_of_ble_eq_true rfl), (Nat.le_of_ble_eq_true rfl)⟩ dL_law_542 (fun r2 u2 hw => ?_)
    exact xr_same C hw.1 679 dL_law_545 (by decide) (hK true ad2 u2 hb2 hw.2)
set_option maxHeartbeats 8000000 in
set_option maxRecDepth 200000 in
theorem law_t18 {p : Program} {l : Launch} {e : Env} {s : State} {m : MethodId} {below : List Frame} {meth : Method} {c : Code} {D : va_G} {b L b1 : Nat} {xs : Nat → Int32} {cI cJ cZ : ClassId} {adm : Nat → Nat} {σ00 : xS} (hL : L ≤ 2048) (C : xC True p s m #[.ref b] meth c cL_law 4 RL wsL_law D vwCl (xtys cI cJ cZ) (fun q : Nat => s.heap.size ≤ q)) (hX : va_X b L xs s s.heap) (hbl : b < s.heap.size) {Rel : Bool → xS → Prop} {ad : Nat → Nat} {σ : xS} {i : Int} (hi0 : 0 ≤ i) (hi1 : i + 4 ≤ (L : Int)) (hb1 : ad 0 = b1) (hK : ∀ (P2 : Bool) (ad2 : Nat → Nat) (u : xS), ad2 0 = b1 → Rel P2 u → xX p l e room_1 s m #[.ref b] below meth c D vwCl (fun q : Nat => s.heap.size ≤ q) (wL P2 ad2 adm cI cJ cZ) FL σ00 (cL P2) (sL P2) (lw_Z below #[.ref b] s) 4 u 679 [(0, .ref b), (1, .ref b1), (2, .ref (adm 20)), (3, .int (i32 i))] []) (hw : lawS18 true ((xs (i + 1).toNat).toInt) ((xs (i + 2).toNat).toInt) ((xs (i + 3).toNat).toInt) σ Rel) : xX p l e room_1 s m #[.ref b] below meth c D vwCl (fun q : Nat => s.heap.size ≤ q) (wL true ad adm cI cJ cZ) FL σ00 (cL true) (sL true) (lw_Z below #[.ref b] s) 4 σ 550 [(0, .ref b), (1, .ref b1), (2, .ref (adm 20)), (3, .int (i32 i))] [] := by
  have hbA : ¬ (fun q : Nat => s.heap.size ≤ q) b := Nat.not_le.mpr hbl
  simp only [lawS18] at hw
  by_cases hc : (xs (i + 3).toNat).toInt = 0
  · simp only [if_pos hc] at hw
    refine xr_aload_n C 1 dL_law_550 rfl rfl ?_
    refine xr_aload_n C 0 dL_law_551 rfl rfl ?_
    refine xr_iload_n C 3 dL_law_552 rfl rfl ?_
    refine xr_iconst C dL_law_553 ?_
    refine xr_iadd C dL_law_554 ?_
    refine xr_sld C hX hbl hbA hL (i := (i + 1)) ⟨by omega, by omega⟩ dL_law_555 ?_
    refine xr_aload_n C 0 dL_law_556 rfl rfl ?_
    refine xr_iload_n C 3 dL_law_557 rfl rfl ?_
    refine xr_iconst C dL_law_558 ?_
    refine xr_iadd C dL_law_559 ?_
    refine xr_sld C hX hbl hbA hL (i := (i + 2)) ⟨by omega, by omega⟩ dL_law_560 ?_
    refine xr_aload_n C 0 dL_law_561 rfl rfl ?_
    refine xr_iload_n C 3 dL_law_562 rfl rfl ?_
    refine xr_iconst C dL_law_563 ?_
    refine xr_iadd C dL_law_564 ?_
    refine xr_sld C hX hbl hbA hL (i := (i + 3)) ⟨by omega, by omega⟩ dL_law_565 ?_
    refine xr_zero C hc 573 dL_law_566 (by decide) ?_
    refine xr_iconst C dL_law_573 ?_
    refine xr_callOi C (ci := 4) (q0 := 0) (As := [.int (i32 ((xs (i + 1).toNat).toInt)), .int (i32 ((xs (i + 2).toNat).toInt)), .int (i32 0)]) (rest := []) (w0 := (wXP (.ref (ad 9)) ad cI cJ cZ)) (wM adm cI cJ cZ) (fun _ => rfl) (fun u u2 h => wM_ind h) (by decide) (mX4_planned (mc := 0) (ms := 0) (w0 := (wXP (.ref (ad 9)) ad cI cJ cZ)) (rmP := rmRPP) (RP := vRPP) hb1 rfl rfl (sp_wXP_wX (.ref (ad 9)) ad cI cJ cZ) (fun u => by rw [← hb1]; rfl) (fun σ Q h => mRPP hb1 σ Q h) σ ((xs (i + 1).toNat).toInt) ((xs (i + 2).toNat).toInt) 0 _ hw) (cwV 3 C.2.2.2.2.1 gL_law_X4_planned rfl rfl rfl (by decide +kernel) ⟨(Nat.le_of_ble_eq_true rfl), (Nat.le_of_ble_eq_true rfl)⟩) rfl (by rw [← hb1]; rfl) rfl rfl (Nat.le_of_ble_eq_true rfl) ⟨(Nat.le_of_ble_eq_true rfl), (Nat.le_of_ble_eq_true rfl)⟩ dL_law_574 (fun r1 u1 hw => ?_) (fun r1 u1 ad2 hb2 hw => ?_)
    · refine xr_aload_n C 2 dL_law_577 rfl rfl ?_
      refine xr_aload_n C 0 dL_law_578 rfl rfl ?_
      refine xr_iload_n C 3 dL_law_579 rfl rfl ?_
      refine xr_iconst C dL_law_580 ?_
      refine xr_iadd C dL_law_581 ?_
      refine xr_sld C hX hbl hbA hL (i := (i + 1)) ⟨by omega, by omega⟩ dL_law_582 ?_
      refine xr_aload_n C 0 dL_law_583 rfl rfl ?_
      refine xr_iload_n C 3 dL_law_584 rfl rfl ?_
      refine xr_iconst C dL_law_585 ?_
      refine xr_iadd C dL_law_586 ?_
      refine xr_sld C hX hbl hbA hL (i := (i + 2)) ⟨by omega, by omega⟩ dL_law_587 ?_
      refine xr_aload_n C 0 dL_law_588 rfl rfl ?_
      refine xr_iload_n C 3 dL_law_589 rfl rfl ?_
      refine xr_iconst C dL_law_590 ?_
      refine xr_iadd C dL_law_591 ?_
      refine xr_sld C hX hbl hbA hL (i := (i + 3)) ⟨by omega, by omega⟩ dL_law_592 ?_
      refine xr_zero C hc 600 dL_law_593 (by decide) ?_
      refine xr_iconst C dL_law_600 ?_
      refine xr_callVi C (ci := 5) (q0 := 0) (As := [.int (i32 ((xs (i + 1).toNat).toInt)), .int (i32 ((xs (i + 2).toNat).toInt)), .int (i32 0)]) (rest := [.int (i32 r1)]) (sp_LP_M ad adm cI cJ cZ) (by decide) (fun _ => trivial) (mX5_planned u1 ((xs (i + 1).toNat).toInt) ((xs (i + 2).toNat).toInt) 0 _ hw) (cwV 3 C.2.2.2.2.1 gL_law_X5_planned rfl rfl rfl (by decide +kernel) ⟨(Nat.le_of_ble_eq_true rfl), (Nat.le_of_ble_eq_true rfl)⟩) rfl rfl rfl rfl (Nat.le_of_ble_eq_true rfl) ⟨(Nat.le_of_ble_eq_true rfl), (Nat.le_of_ble_eq_true rfl)⟩ dL_law_601 (fun r2 u2 hw => ?_)
      exact xr_same C hw.1 679 dL_law_604 (by decide) (hK true ad u2 hb1 hw.2)
    · refine xr_world (wL true ad2 adm cI cJ cZ) (fun _ => rfl) ?_
      refine xr_aload_n C 2 dL_law_577 rfl rfl ?_
      refine xr_aload_n C 0 dL_law_578 rfl rfl ?_
      refine xr_iload_n C 3 dL_law_579 rfl rfl ?_
      refine xr_iconst C dL_law_580 ?_
      refine xr_iadd C dL_law_581 ?_
      refine xr_sld C hX hbl hbA hL (i := (i + 1)) ⟨by omega, by omega⟩ dL_law_582 ?_
      refine xr_aload_n C 0 dL_law_583 rfl rfl ?_
      refine xr_iload_n C 3 dL_law_584 rfl rfl ?_
      refine xr_iconst C dL_law_585 ?_
      refine xr_iadd C dL_law_586 ?_
      refine xr_sld C hX hbl hbA hL (i := (i + 2)) ⟨by omega, by omega⟩ dL_law_587 ?_
      refine xr_aload_n C 0 dL_law_588 rfl rfl ?_
      refine xr_iload_n C 3 dL_law_589 rfl rfl ?_
      refine xr_iconst C dL_law_590 ?_
      refine xr_iadd C dL_law_591 ?_
      refine xr_sld C hX hbl hbA hL (i := (i + 3)) ⟨by omega, by omega⟩ dL_law_592 ?_
      refine xr_zero C hc 600 dL_law_593 (by decide) ?_
      refine xr_iconst C dL_law_600 ?_
      refine xr_callVi C (ci := 5) (q0 := 0) (As := [.int (i32 ((xs (i + 1).toNat).toInt)), .int (i32 ((xs (i + 2).toNat).toInt)), .int (i32 0)]) (rest := [.int (i32 r1)]) (sp_LP_M ad2 adm cI cJ cZ) (by decide) (fun _ => trivial) (mX5_planned u1 ((xs (i + 1).toNat).toInt) ((xs (i + 2).toNat).toInt) 0 _ hw) (cwV 3 C.2.2.2.2.1 gL_law_X5_planned rfl rfl rfl (by decide +kernel) ⟨(Nat.le_of_ble_eq_true rfl), (Nat.le_of_ble_eq_true rfl)⟩) rfl rfl rfl rfl (Nat.le_of_ble_eq_true rfl) ⟨(Nat.le_of_ble_eq_true rfl), (Nat.le_of_ble_eq_true rfl)⟩ dL_law_601 (fun r2 u2 hw => ?_)
      exact xr_same C hw.1 679 dL_law_604 (by decide) (hK true ad2 u2 hb2 hw.2)
  · simp only [if_neg hc] at hw
    refine xr_aload_n C 1 dL_law_550 rfl rfl ?_
    refine xr_aload_n C 0 dL_law_551 rfl rfl ?_
    refine xr_iload_n C 3 dL_law_552 rfl rfl ?_
    refine xr_iconst C dL_law_553 ?_
    refine xr_iadd C dL_law_554 ?_
    refine xr_sld C hX hbl hbA hL (i := (i + 1)) ⟨by omega, by omega⟩ dL_law_555 ?_
    refine xr_aload_n C 0 dL_law_556 rfl rfl ?_
    refine xr_iload_n C 3 dL_law_557 rfl rfl ?_
    refine xr_iconst C dL_law_558 ?_
    refine xr_iadd C dL_law_559 ?_
    refine xr_sld C hX hbl hbA hL (i := (i + 2)) ⟨by omega, by omega⟩ dL_law_560 ?_
    refine xr_aload_n C 0 dL_law_561 rfl rfl ?_
    refine xr_iload_n C 3 dL_law_562 rfl rfl ?_
    refine xr_iconst C dL_law_563 ?_
    refine xr_iadd C dL_law_564 ?_
    refine xr_sld C hX hbl hbA hL (i := (i + 3)) ⟨by omega, by omega⟩ dL_law_565 ?_
    refine xr_nonzero C (tgt := 573) (i32_rng _) hc dL_law_566 (by decide) ?_
    refine xr_iconst C dL_law_569 ?_
    refine xr_goto C 574 dL_law_570 (by decide) ?_
    refine xr_callOi C (ci := 4) (q0 := 0) (As := [.int (i32 ((xs (i + 1).toNat).toInt)), .int (i32 ((xs (i + 2).toNat).toInt)), .int (i32 1)]) (rest := []) (w0 := (wXP (.ref (ad 9)) ad cI cJ cZ)) (wM adm cI cJ cZ) (fun _ => rfl) (fun u u2 h => wM_ind h) (by decide) (mX4_planned (mc := 0) (ms := 0) (w0 := (wXP (.ref (ad 9)) ad cI cJ cZ)) (rmP := rmRPP) (RP := vRPP) hb1 rfl rfl (sp_wXP_wX (.ref (ad 9)) ad cI cJ cZ) (fun u => by rw [← hb1]; rfl) (fun σ Q h => mRPP hb1 σ Q h) σ ((xs (i + 1).toNat).toInt) ((xs (i + 2).toNat).toInt) 1 _ hw) (cwV 3 C.2.2.2.2.1 gL_law_X4_planned rfl rfl rfl (by decide +kernel) ⟨(Nat.le_of_ble_eq_true rfl), (Nat.le_of_ble_eq_true rfl)⟩) rfl (by rw [← hb1]; rfl) rfl rfl (Nat.le_of_ble_eq_true rfl) ⟨(Nat.le_of_ble_eq_true rfl), (Nat.le_of_ble_eq_true rfl)⟩ dL_law_574 (fun r1 u1 hw => ?_) (fun r1 u1 ad2 hb2 hw => ?_)
    · refine xr_aload_n C 2 dL_law_577 rfl rfl ?_
      refine xr_aload_n C 0 dL_law_578 rfl rfl ?_
      refine xr_iload_n C 3 dL_law_579 rfl rfl ?_
      refine xr_iconst C dL_law_580 ?_
      refine xr_iadd C dL_law_581 ?_
      refine xr_sld C hX hbl hbA hL (i := (i + 1)) ⟨by omega, by omega⟩ dL_law_582 ?_
      refine xr_aload_n C 0 dL_law_583 rfl rfl ?_
      refine xr_iload_n C 3 dL_law_584 rfl rfl ?_
      refine xr_iconst C dL_law_585 ?_
      refine xr_iadd C dL_law_586 ?_
      refine xr_sld C hX hbl hbA hL (i := (i + 2)) ⟨by omega, by omega⟩ dL_law_587 ?_
      refine xr_aload_n C 0 dL_law_588 rfl rfl ?_
      refine xr_iload_n C 3 dL_law_589 rfl rfl ?_
      refine xr_iconst C dL_law_590 ?_
      refine xr_iadd C dL_law_591 ?_
      refine xr_sld C hX hbl hbA hL (i := (i + 3)) ⟨by omega, by omega⟩ dL_law_592 ?_
      refine xr_nonzero C (tgt := 600) (i32_rng _) hc dL_law_593 (by decide) ?_
      refine xr_iconst C dL_law_596 ?_
      refine xr_goto C 601 dL_law_597 (by decide) ?_
      refine xr_callVi C (ci := 5) (q0 := 0) (As := [.int (i32 ((xs (i + 1).toNat).toInt)), .int (i32 ((xs (i + 2).toNat).toInt)), .int (i32 1)]) (rest := [.int (i32 r1)]) (sp_LP_M ad adm cI cJ cZ) (by decide) (fun _ => trivial) (mX5_planned u1 ((xs (i + 1).toNat).toInt) ((xs (i + 2).toNat).toInt) 1 _ hw) (cwV 3 C.2.2.2.2.1 gL_law_X5_planned rfl rfl rfl (by decide +kernel) ⟨(Nat.le_of_ble_eq_true rfl), (Nat.le_of_ble_eq_true rfl)⟩) rfl rfl rfl rfl (Nat.le_of_ble_eq_true rfl) ⟨(Nat.le_of_ble_eq_true rfl), (Nat.le_of_ble_eq_true rfl)⟩ dL_law_601 (fun r2 u2 hw => ?_)
      exact xr_same C hw.1 679 dL_law_604 (by decide) (hK true ad u2 hb1 hw.2)
    · refine xr_world (wL true ad2 adm cI cJ cZ) (fun _ => rfl) ?_
      refine xr_aload_n C 2 dL_law_577 rfl rfl ?_
      refine xr_aload_n C 0 dL_law_578 rfl rfl ?_
      refine xr_iload_n C 3 dL_law_579 rfl rfl ?_
      refine xr_iconst C dL_law_580 ?_
      refine xr_iadd C dL_law_581 ?_
      refine xr_sld C hX hbl hbA hL (i := (i + 1)) ⟨by omega, by omega⟩ dL_law_582 ?_
      refine xr_aload_n C 0 dL_law_583 rfl rfl ?_
      refine xr_iload_n C 3 dL_law_584 rfl rfl ?_
      refine xr_iconst C dL_law_585 ?_
      refine xr_iadd C dL_law_586 ?_
      refine xr_sld C hX hbl hbA hL (i := (i + 2)) ⟨by omega, by omega⟩ dL_law_587 ?_
      refine xr_aload_n C 0 dL_law_588 rfl rfl ?_
      refine xr_iload_n C 3 dL_law_589 rfl rfl ?_
      refine xr_iconst C dL_law_590 ?_
      refine xr_iadd C dL_law_591 ?_
      refine xr_sld C hX hbl hbA hL (i := (i + 3)) ⟨by omega, by omega⟩ dL_law_592 ?_
      refine xr_nonzero C (tgt := 600) (i32_rng _) hc dL_law_593 (by decide) ?_
      refine xr_iconst C dL_law_596 ?_
      refine xr_goto C 601 dL_law_597 (by decide) ?_
      refine xr_callVi C (ci := 5) (q0 := 0) (As := [.int (i32 ((xs (i + 1).toNat).toInt)), .int (i32 ((xs (i + 2).toNat).toInt)), .int (i32 1)]) (rest := [.int (i32 r1)]) (sp_LP_M ad2 adm cI cJ cZ) (by decide) (fun _ => trivial) (mX5_planned u1 ((xs (i + 1).toNat).toInt) ((xs (i + 2).toNat).toInt) 1 _ hw) (cwV 3 C.2.2.2.2.1 gL_law_X5_planned rfl rfl rfl (by decide +kernel) ⟨(Nat.le_of_ble_eq_true rfl), (Nat.le_of_ble_eq_true rfl)⟩) rfl rfl rfl rfl (Nat.le_of_ble_eq_true rfl) ⟨(Nat.le_of_ble_eq_true rfl), (Nat.le_of_ble_eq_true rfl)⟩ dL_law_601 (fun r2 u2 hw => ?_)
      exact xr_same C hw.1 679 dL_law_604 (by decide) (hK true ad2 u2 hb2 hw.2)
set_option maxHeartbeats 8000000 in
set_option maxRecDepth 200000 in
theorem law_t19 {p : Program} {l : Launch} {e : Env} {s : State} {m : MethodId} {below : List Frame} {meth : Method} {c : Code} {D : va_G} {b L b1 : Nat} {xs : Nat → Int32} {cI cJ cZ : ClassId} {adm : Nat → Nat} {σ00 : xS} (hL : L ≤ 2048) (C : xC True p s m #[.ref b] meth c cL_law 4 RL wsL_law D vwCl (xtys cI cJ cZ) (fun q : Nat => s.heap.size ≤ q)) (hX : va_X b L xs s s.heap) (hbl : b < s.heap.size) {Rel : Bool → xS → Prop} {ad : Nat → Nat} {σ : xS} {i : Int} (hi0 : 0 ≤ i) (hi1 : i + 4 ≤ (L : Int)) (hb1 : ad 0 = b1) (hK : ∀ (P2 : Bool) (ad2 : Nat → Nat) (u : xS), ad2 0 = b1 → Rel P2 u → xX p l e room_1 s m #[.ref b] below meth c D vwCl (fun q : Nat => s.heap.size ≤ q) (wL P2 ad2 adm cI cJ cZ) FL σ00 (cL P2) (sL P2) (lw_Z below #[.ref b] s) 4 u 679 [(0, .ref b), (1, .ref b1), (2, .ref (adm 20)), (3, .int (i32 i))] []) (hw : lawS19 true ((xs (i + 1).toNat).toInt) ((xs (i + 2).toNat).toInt) ((xs (i + 3).toNat).toInt) σ Rel) : xX p l e room_1 s m #[.ref b] below meth c D vwCl (fun q : Nat => s.heap.size ≤ q) (wL true ad adm cI cJ cZ) FL σ00 (cL true) (sL true) (lw_Z below #[.ref b] s) 4 σ 609 [(0, .ref b), (1, .ref b1), (2, .ref (adm 20)), (3, .int (i32 i))] [] := by
  have hbA : ¬ (fun q : Nat => s.heap.size ≤ q) b := Nat.not_le.mpr hbl
  simp only [lawS19] at hw
  refine xr_aload_n C 1 dL_law_609 rfl rfl ?_
  refine xr_aload_n C 0 dL_law_610 rfl rfl ?_
  refine xr_iload_n C 3 dL_law_611 rfl rfl ?_
  refine xr_iconst C dL_law_612 ?_
  refine xr_iadd C dL_law_613 ?_
  refine xr_sld C hX hbl hbA hL (i := (i + 1)) ⟨by omega, by omega⟩ dL_law_614 ?_
  refine xr_aload_n C 0 dL_law_615 rfl rfl ?_
  refine xr_iload_n C 3 dL_law_616 rfl rfl ?_
  refine xr_iconst C dL_law_617 ?_
  refine xr_iadd C dL_law_618 ?_
  refine xr_sld C hX hbl hbA hL (i := (i + 2)) ⟨by omega, by omega⟩ dL_law_619 ?_
  refine xr_callOi C (ci := 4) (q0 := 0) (As := [.int (i32 ((xs (i + 1).toNat).toInt)), .int (i32 ((xs (i + 2).toNat).toInt))]) (rest := []) (w0 := (wXP (.ref (ad 9)) ad cI cJ cZ)) (wM adm cI cJ cZ) (fun _ => rfl) (fun u u2 h => wM_ind h) (by decide) (mX4_measurable (mc := 0) (ms := 0) (w0 := (wXP (.ref (ad 9)) ad cI cJ cZ)) (rmP := rmRPP) (RP := vRPP) hb1 rfl rfl (sp_wXP_wX (.ref (ad 9)) ad cI cJ cZ) (fun u => by rw [← hb1]; rfl) (fun σ Q h => mRPP hb1 σ Q h) σ ((xs (i + 1).toNat).toInt) ((xs (i + 2).toNat).toInt) _ hw) (cwV 2 C.2.2.2.2.1 gL_law_X4_measurable rfl rfl rfl (by decide +kernel) ⟨(Nat.le_of_ble_eq_true rfl), (Nat.le_of_ble_eq_true rfl)⟩) rfl (by rw [← hb1]; rfl) rfl rfl (Nat.le_of_ble_eq_true rfl) ⟨(Nat.le_of_ble_eq_true rfl), (Nat.le_of_ble_eq_true rfl)⟩ dL_law_620 (fun r1 u1 hw => ?_) (fun r1 u1 ad2 hb2 hw => ?_)
  · refine xr_aload_n C 2 dL_law_623 rfl rfl ?_
    refine xr_aload_n C 0 dL_law_624 rfl rfl ?_
    refine xr_iload_n C 3 dL_law_625 rfl rfl ?_
    refine xr_iconst C dL_law_626 ?_
    refine xr_iadd C dL_law_627 ?_
    refine xr_sld C hX hbl hbA hL (i := (i + 1)) ⟨by omega, by omega⟩ dL_law_628 ?_
    refine xr_aload_n C 0 dL_law_629 rfl rfl ?_
    refine xr_iload_n C 3 dL_law_630 rfl rfl ?_
    refine xr_iconst C dL_law_631 ?_
    refine xr_iadd C dL_law_632 ?_
    refine xr_sld C hX hbl hbA hL (i := (i + 2)) ⟨by omega, by omega⟩ dL_law_633 ?_
    refine xr_callVi C (ci := 5) (q0 := 0) (As := [.int (i32 ((xs (i + 1).toNat).toInt)), .int (i32 ((xs (i + 2).toNat).toInt))]) (rest := [.int (i32 r1)]) (sp_LP_M ad adm cI cJ cZ) (by decide) (fun _ => trivial) (mX5_measurable u1 ((xs (i + 1).toNat).toInt) ((xs (i + 2).toNat).toInt) _ hw) (cwV 2 C.2.2.2.2.1 gL_law_X5_measurable rfl rfl rfl (by decide +kernel) ⟨(Nat.le_of_ble_eq_true rfl), (Nat.le_of_ble_eq_true rfl)⟩) rfl rfl rfl rfl (Nat.le_of_ble_eq_true rfl) ⟨(Nat.le_of_ble_eq_true rfl), (Nat.le_of_ble_eq_true rfl)⟩ dL_law_634 (fun r2 u2 hw => ?_)
    exact xr_same C hw.1 679 dL_law_637 (by decide) (hK true ad u2 hb1 hw.2)
  · refine xr_world (wL true ad2 adm cI cJ cZ) (fun _ => rfl) ?_
    refine xr_aload_n C 2 dL_law_623 rfl rfl ?_
    refine xr_aload_n C 0 dL_law_624 rfl rfl ?_
    refine xr_iload_n C 3 dL_law_625 rfl rfl ?_
    refine xr_iconst C dL_law_626 ?_
    refine xr_iadd C dL_law_627 ?_
    refine xr_sld C hX hbl hbA hL (i := (i + 1)) ⟨by omega, by omega⟩ dL_law_628 ?_
    refine xr_aload_n C 0 dL_law_629 rfl rfl ?_
    refine xr_iload_n C 3 dL_law_630 rfl rfl ?_
    refine xr_iconst C dL_law_631 ?_
    refine xr_iadd C dL_law_632 ?_
    refine xr_sld C hX hbl hbA hL (i := (i + 2)) ⟨by omega, by omega⟩ dL_law_633 ?_
    refine xr_callVi C (ci := 5) (q0 := 0) (As := [.int (i32 ((xs (i + 1).toNat).toInt)), .int (i32 ((xs (i + 2).toNat).toInt))]) (rest := [.int (i32 r1)]) (sp_LP_M ad2 adm cI cJ cZ) (by decide) (fun _ => trivial) (mX5_measurable u1 ((xs (i + 1).toNat).toInt) ((xs (i + 2).toNat).toInt) _ hw) (cwV 2 C.2.2.2.2.1 gL_law_X5_measurable rfl rfl rfl (by decide +kernel) ⟨(Nat.le_of_ble_eq_true rfl), (Nat.le_of_ble_eq_true rfl)⟩) rfl rfl rfl rfl (Nat.le_of_ble_eq_true rfl) ⟨(Nat.le_of_ble_eq_true rfl), (Nat.le_of_ble_eq_true rfl)⟩ dL_law_634 (fun r2 u2 hw => ?_)
    exact xr_same C hw.1 679 dL_law_637 (by decide) (hK true ad2 u2 hb2 hw.2)
set_option maxHeartbeats 8000000 in
set_option maxRecDepth 200000 in
theorem law_t20 {p : Program} {l : Launch} {e : Env} {s : State} {m : MethodId} {below : List Frame} {meth : Method} {c : Code} {D : va_G} {b L b1 : Nat} {xs : Nat → Int32} {cI cJ cZ : ClassId} {adm : Nat → Nat} {σ00 : xS} (hL : L ≤ 2048) (C : xC True p s m #[.ref b] meth c cL_law 4 RL wsL_law D vwCl (xtys cI cJ cZ) (fun q : Nat => s.heap.size ≤ q)) (hX : va_X b L xs s s.heap) (hbl : b < s.heap.size) {Rel : Bool → xS → Prop} {ad : Nat → Nat} {σ : xS} {i : Int} (hi0 : 0 ≤ i) (hi1 : i + 4 ≤ (L : Int)) (hb1 : ad 0 = b1) (hK : ∀ (P2 : Bool) (ad2 : Nat → Nat) (u : xS), ad2 0 = b1 → Rel P2 u → xX p l e room_1 s m #[.ref b] below meth c D vwCl (fun q : Nat => s.heap.size ≤ q) (wL P2 ad2 adm cI cJ cZ) FL σ00 (cL P2) (sL P2) (lw_Z below #[.ref b] s) 4 u 679 [(0, .ref b), (1, .ref b1), (2, .ref (adm 20)), (3, .int (i32 i))] []) (hw : lawS20 true ((xs (i + 1).toNat).toInt) ((xs (i + 2).toNat).toInt) ((xs (i + 3).toNat).toInt) σ Rel) : xX p l e room_1 s m #[.ref b] below meth c D vwCl (fun q : Nat => s.heap.size ≤ q) (wL true ad adm cI cJ cZ) FL σ00 (cL true) (sL true) (lw_Z below #[.ref b] s) 4 σ 642 [(0, .ref b), (1, .ref b1), (2, .ref (adm 20)), (3, .int (i32 i))] [] := by
  have hbA : ¬ (fun q : Nat => s.heap.size ≤ q) b := Nat.not_le.mpr hbl
  unfold lawS20 at hw
  refine xr_aload_n C 1 dL_law_642 rfl rfl ?_
  refine xr_aload_n C 0 dL_law_643 rfl rfl ?_
  refine xr_iload_n C 3 dL_law_644 rfl rfl ?_
  refine xr_iconst C dL_law_645 ?_
  refine xr_iadd C dL_law_646 ?_
  refine xr_sld C hX hbl hbA hL (i := (i + 1)) ⟨by omega, by omega⟩ dL_law_647 ?_
  refine xr_callVi C (ci := 4) (q0 := 0) (As := [.int (i32 ((xs (i + 1).toNat).toInt))]) (rest := []) (sp_LP_X ad adm cI cJ cZ) (by decide) (fun _ => trivial) (mX4_count σ ((xs (i + 1).toNat).toInt) _ hw) (cwV 1 C.2.2.2.2.1 gL_law_X4_count rfl rfl rfl (by decide +kernel) ⟨(Nat.le_of_ble_eq_true rfl), (Nat.le_of_ble_eq_true rfl)⟩) rfl rfl rfl (by rw [hb1]; rfl) (Nat.le_of_ble_eq_true rfl) ⟨(Nat.le_of_ble_eq_true rfl), (Nat.le_of_ble_eq_true rfl)⟩ dL_law_648 (fun r1 u1 hw => ?_)
  refine xr_aload_n C 2 dL_law_651 rfl rfl ?_
  refine xr_aload_n C 0 dL_law_652 rfl rfl ?_
  refine xr_iload_n C 3 dL_law_653 rfl rfl ?_
  refine xr_iconst C dL_law_654 ?_
  refine xr_iadd C dL_law_655 ?_
  refine xr_sld C hX hbl hbA hL (i := (i + 1)) ⟨by omega, by omega⟩ dL_law_656 ?_
  refine xr_callVi C (ci := 5) (q0 := 0) (As := [.int (i32 ((xs (i + 1).toNat).toInt))]) (rest := [.int (i32 r1)]) (sp_LP_M ad adm cI cJ cZ) (by decide) (fun _ => trivial) (mX5_count u1 ((xs (i + 1).toNat).toInt) _ hw) (cwV 1 C.2.2.2.2.1 gL_law_X5_count rfl rfl rfl (by decide +kernel) ⟨(Nat.le_of_ble_eq_true rfl), (Nat.le_of_ble_eq_true rfl)⟩) rfl rfl rfl rfl (Nat.le_of_ble_eq_true rfl) ⟨(Nat.le_of_ble_eq_true rfl), (Nat.le_of_ble_eq_true rfl)⟩ dL_law_657 (fun r2 u2 hw => ?_)
  exact xr_same C hw.1 679 dL_law_660 (by decide) (hK true ad u2 hb1 hw.2)
set_option maxHeartbeats 8000000 in
set_option maxRecDepth 200000 in
theorem law_t21 {p : Program} {l : Launch} {e : Env} {s : State} {m : MethodId} {below : List Frame} {meth : Method} {c : Code} {D : va_G} {b L b1 : Nat} {xs : Nat → Int32} {cI cJ cZ : ClassId} {adm : Nat → Nat} {σ00 : xS} (hL : L ≤ 2048) (C : xC True p s m #[.ref b] meth c cL_law 4 RL wsL_law D vwCl (xtys cI cJ cZ) (fun q : Nat => s.heap.size ≤ q)) (hX : va_X b L xs s s.heap) (hbl : b < s.heap.size) {Rel : Bool → xS → Prop} {ad : Nat → Nat} {σ : xS} {i : Int} (hi0 : 0 ≤ i) (hi1 : i + 4 ≤ (L : Int)) (hb1 : ad 0 = b1) (hK : ∀ (P2 : Bool) (ad2 : Nat → Nat) (u : xS), ad2 0 = b1 → Rel P2 u → xX p l e room_1 s m #[.ref b] below meth c D vwCl (fun q : Nat => s.heap.size ≤ q) (wL P2 ad2 adm cI cJ cZ) FL σ00 (cL P2) (sL P2) (lw_Z below #[.ref b] s) 4 u 679 [(0, .ref b), (1, .ref b1), (2, .ref (adm 20)), (3, .int (i32 i))] []) (hw : lawS21 true ((xs (i + 1).toNat).toInt) ((xs (i + 2).toNat).toInt) ((xs (i + 3).toNat).toInt) σ Rel) : xX p l e room_1 s m #[.ref b] below meth c D vwCl (fun q : Nat => s.heap.size ≤ q) (wL true ad adm cI cJ cZ) FL σ00 (cL true) (sL true) (lw_Z below #[.ref b] s) 4 σ 665 [(0, .ref b), (1, .ref b1), (2, .ref (adm 20)), (3, .int (i32 i))] [] := by
  have hbA : ¬ (fun q : Nat => s.heap.size ≤ q) b := Nat.not_le.mpr hbl
  simp only [lawS21] at hw
  refine xr_aload_n C 1 dL_law_665 rfl rfl ?_
  refine xr_callOl C (ci := 4) (q0 := 0) (As := []) (rest := []) (w0 := (wXP (.ref (ad 9)) ad cI cJ cZ)) (wM adm cI cJ cZ) (fun _ => rfl) (fun u u2 h => wM_ind h) (by decide) (mX4_digest (mc := 0) (ms := 0) (w0 := (wXP (.ref (ad 9)) ad cI cJ cZ)) (rmP := rmRPP) (RP := vRPP) hb1 rfl rfl (sp_wXP_wX (.ref (ad 9)) ad cI cJ cZ) (fun u => by rw [← hb1]; rfl) (fun σ Q h => mRPP hb1 σ Q h) σ _ hw) (cwV 0 C.2.2.2.2.1 gL_law_X4_digest rfl rfl rfl (by decide +kernel) ⟨(Nat.le_of_ble_eq_true rfl), (Nat.le_of_ble_eq_true rfl)⟩) rfl (by rw [← hb1]; rfl) rfl rfl (Nat.le_of_ble_eq_true rfl) ⟨(Nat.le_of_ble_eq_true rfl), (Nat.le_of_ble_eq_true rfl)⟩ dL_law_666 (fun r1 u1 hw => ?_) (fun r1 u1 ad2 hb2 hw => ?_)
  · refine xr_aload_n C 2 dL_law_669 rfl rfl ?_
    refine xr_callVl C (ci := 5) (q0 := 0) (As := []) (rest := [.long (i64 r1)]) (sp_LP_M ad adm cI cJ cZ) (by decide) (fun _ => trivial) (mX5_digest u1 _ hw) (cwV 0 C.2.2.2.2.1 gL_law_X5_digest rfl rfl rfl (by decide +kernel) ⟨(Nat.le_of_ble_eq_true rfl), (Nat.le_of_ble_eq_true rfl)⟩) rfl rfl rfl rfl (Nat.le_of_ble_eq_true rfl) ⟨(Nat.le_of_ble_eq_true rfl), (Nat.le_of_ble_eq_true rfl)⟩ dL_law_670 (fun r2 u2 hw => ?_)
    obtain ⟨rfl, hw⟩ := hw
    refine xr_lcmp C dL_law_673 ?_
    exact xr_zero C (jlcmp_self _) 679 dL_law_674 (by decide) (hK true ad u2 hb1 hw)
  · refine xr_world (wL true ad2 adm cI cJ cZ) (fun _ => rfl) ?_
    refine xr_aload_n C 2 dL_law_669 rfl rfl ?_
    refine xr_callVl C (ci := 5) (q0 := 0) (As := []) (rest := [.long (i64 r1)]) (sp_LP_M ad2 adm cI cJ cZ) (by decide) (fun _ => trivial) (mX5_digest u1 _ hw) (cwV 0 C.2.2.2.2.1 gL_law_X5_digest rfl rfl rfl (by decide +kernel) ⟨(Nat.le_of_ble_eq_true rfl), (Nat.le_of_ble_eq_true rfl)⟩) rfl rfl rfl rfl (Nat.le_of_ble_eq_true rfl) ⟨(Nat.le_of_ble_eq_true rfl), (Nat.le_of_ble_eq_true rfl)⟩ dL_law_670 (fun r2 u2 hw => ?_)
    obtain ⟨rfl, hw⟩ := hw
    refine xr_lcmp C dL_law_673 ?_
    exact xr_zero C (jlcmp_self _) 679 dL_law_674 (by decide) (hK true ad2 u2 hb2 hw)
set_option maxHeartbeats 8000000 in
set_option maxRecDepth 200000 in
theorem law_case_f {p : Program} {l : Launch} {e : Env} {s : State} {m : MethodId} {below : List Frame} {meth : Method} {c : Code} {D : va_G} {b L b1 : Nat} {xs : Nat → Int32} {cI cJ cZ : ClassId} {adm : Nat → Nat} {σ00 : xS} (hL : L ≤ 2048) (C : xC True p s m #[.ref b] meth c cL_law 4 RL wsL_law D vwCl (xtys cI cJ cZ) (fun q : Nat => s.heap.size ≤ q)) (hX : va_X b L xs s s.heap) (hbl : b < s.heap.size) {Rel : Bool → xS → Prop} {ad : Nat → Nat} {σ : xS} {i : Int} (hi0 : 0 ≤ i) (hi1 : i + 4 ≤ (L : Int)) (hb1 : ad 0 = b1) (hK : ∀ (P2 : Bool) (ad2 : Nat → Nat) (u : xS), ad2 0 = b1 → Rel P2 u → xX p l e room_1 s m #[.ref b] below meth c D vwCl (fun q : Nat => s.heap.size ≤ q) (wL P2 ad2 adm cI cJ cZ) FL σ00 (cL P2) (sL P2) (lw_Z below #[.ref b] s) 4 u 679 [(0, .ref b), (1, .ref b1), (2, .ref (adm 20)), (3, .int (i32 i))] []) {k : Int} (rk : rng k) (hw : lawS false k ((xs (i + 1).toNat).toInt) ((xs (i + 2).toNat).toInt) ((xs (i + 3).toNat).toInt) σ Rel) : xX p l e room_1 s m #[.ref b] below meth c D vwCl (fun q : Nat => s.heap.size ≤ q) (wL false ad adm cI cJ cZ) FL σ00 (cL false) (sL false) (lw_Z below #[.ref b] s) 4 σ 32 [(0, .ref b), (1, .ref b1), (2, .ref (adm 20)), (3, .int (i32 i))] [.int (i32 k)] := by
  unfold lawS at hw
  by_cases h : k < 0 ∨ 21 < k
  · exact xr_tabOut C rk 679 dL_law_32 h (by decide) (hK false ad σ hb1 (hw.1 h))
  · have hw := hw.2
    have hb : (0 : Int) ≤ k := Int.not_lt.mp (fun q => h (Or.inl q))
    by_cases c0 : k = 0
    · exact xr_tabIn C (off := 104) 0 c0 ⟨by decide, by decide⟩ 136 dL_law_32 (by decide) (by decide) (by decide +kernel) (by decide) (law_f0 hL C hX hbl hi0 hi1 hb1 hK (hw.1 c0))
    · have hw := hw.2
      have hb : (1 : Int) ≤ k := Int.lt_iff_le_and_ne.mpr ⟨hb, fun q => c0 q.symm⟩
      by_cases c1 : k = 1
      · exact xr_tabIn C (off := 127) 1 c1 ⟨by decide, by decide⟩ 159 dL_law_32 (by decide) (by decide) (by decide +kernel) (by decide) (law_f1 hL C hX hbl hi0 hi1 hb1 hK (hw.1 c1))
      · have hw := hw.2
        have hb : (2 : Int) ≤ k := Int.lt_iff_le_and_ne.mpr ⟨hb, fun q => c1 q.symm⟩
        by_cases c2 : k = 2
        · exact xr_tabIn C (off := 140) 2 c2 ⟨by decide, by decide⟩ 172 dL_law_32 (by decide) (by decide) (by decide +kernel) (by decide) (law_f2 hL C hX hbl hi0 hi1 hb1 hK (hw.1 c2))
        · have hw := hw.2
          have hb : (3 : Int) ≤ k := Int.lt_iff_le_and_ne.mpr ⟨hb, fun q => c2 q.symm⟩
          by_cases c3 : k = 3
          · exact xr_tabIn C (off := 153) 3 c3 ⟨by decide, by decide⟩ 185 dL_law_32 (by decide) (by decide) (by decide +kernel) (by decide) (law_f3 hL C hX hbl hi0 hi1 hb1 hK (hw.1 c3))
          · have hw := hw.2
            have hb : (4 : Int) ≤ k := Int.lt_iff_le_and_ne.mpr ⟨hb, fun q => c3 q.symm⟩
            by_cases c4 : k = 4
            · exact xr_tabIn C (off := 176) 4 c4 ⟨by decide, by decide⟩ 208 dL_law_32 (by decide) (by decide) (by decide +kernel) (by decide) (law_f4 hL C hX hbl hi0 hi1 hb1 hK (hw.1 c4))
            · have hw := hw.2
              have hb : (5 : Int) ≤ k := Int.lt_iff_le_and_ne.mpr ⟨hb, fun q => c4 q.symm⟩
              by_cases c5 : k = 5
              · exact xr_tabIn C (off := 209) 5 c5 ⟨by decide, by decide⟩ 241 dL_law_32 (by decide) (by decide) (by decide +kernel) (by decide) (law_f5 hL C hX hbl hi0 hi1 hb1 hK (hw.1 c5))
              · have hw := hw.2
                have hb : (6 : Int) ≤ k := Int.lt_iff_le_and_ne.mpr ⟨hb, fun q => c5 q.symm⟩
                by_cases c6 : k = 6
                · exact xr_tabIn C (off := 252) 6 c6 ⟨by decide, by decide⟩ 284 dL_law_32 (by decide) (by decide) (by decide +kernel) (by decide) (law_f6 hL C hX hbl hi0 hi1 hb1 hK (hw.1 c6))
                · have hw := hw.2
                  have hb : (7 : Int) ≤ k := Int.lt_iff_le_and_ne.mpr ⟨hb, fun q => c6 q.symm⟩
                  by_cases c7 : k = 7
                  · exact xr_tabIn C (off := 285) 7 c7 ⟨by decide, by decide⟩ 317 dL_law_32 (by decide) (by decide) (by decide +kernel) (by decide) (law_f7 hL C hX hbl hi0 hi1 hb1 hK (hw.1 c7))
                  · have hw := hw.2
                    have hb : (8 : Int) ≤ k := Int.lt_iff_le_and_ne.mpr ⟨hb, fun q => c7 q.symm⟩
                    by_cases c8 : k = 8
                    · exact xr_tabIn C (off := 308) 8 c8 ⟨by decide, by decide⟩ 340 dL_law_32 (by decide) (by decide) (by decide +kernel) (by decide) (law_f8 hL C hX hbl hi0 hi1 hb1 hK (hw.1 c8))
                    · have hw := hw.2
                      have hb : (9 : Int) ≤ k := Int.lt_iff_le_and_ne.mpr ⟨hb, fun q => c8 q.symm⟩
                      by_cases c9 : k = 9
                      · exact xr_tabIn C (off := 331) 9 c9 ⟨by decide, by decide⟩ 363 dL_law_32 (by decide) (by decide) (by decide +kernel) (by decide) (law_f9 hL C hX hbl hi0 hi1 hb1 hK (hw.1 c9))
                      · have hw := hw.2
                        have hb : (10 : Int) ≤ k := Int.lt_iff_le_and_ne.mpr ⟨hb, fun q => c9 q.symm⟩
                        by_cases c10 : k = 10
                        · exact xr_tabIn C (off := 354) 10 c10 ⟨by decide, by decide⟩ 386 dL_law_32 (by decide) (by decide) (by decide +kernel) (by decide) (law_f10 hL C hX hbl hi0 hi1 hb1 hK (hw.1 c10))
                        · have hw := hw.2
                          have hb : (11 : Int) ≤ k := Int.lt_iff_le_and_ne.mpr ⟨hb, fun q => c10 q.symm⟩
                          by_cases c11 : k = 11
                          · exact xr_tabIn C (off := 377) 11 c11 ⟨by decide, by decide⟩ 409 dL_law_32 (by decide) (by decide) (by decide +kernel) (by decide) (law_f11 hL C hX hbl hi0 hi1 hb1 hK (hw.1 c11))
                          · have hw := hw.2
                            have hb : (12 : Int) ≤ k := Int.lt_iff_le_and_ne.mpr ⟨hb, fun q => c11 q.symm⟩
                            by_cases c12 : k = 12
                            · exact xr_tabIn C (off := 390) 12 c12 ⟨by decide, by decide⟩ 422 dL_law_32 (by decide) (by decide) (by decide +kernel) (by decide) (law_f12 hL C hX hbl hi0 hi1 hb1 hK (hw.1 c12))
                            · have hw := hw.2
                              have hb : (13 : Int) ≤ k := Int.lt_iff_le_and_ne.mpr ⟨hb, fun q => c12 q.symm⟩
                              by_cases c13 : k = 13
                              · exact xr_tabIn C (off := 403) 13 c13 ⟨by decide, by decide⟩ 435 dL_law_32 (by decide) (by decide) (by decide +kernel) (by decide) (law_f13 hL C hX hbl hi0 hi1 hb1 hK (hw.1 c13))
                              · have hw := hw.2
                                have hb : (14 : Int) ≤ k := Int.lt_iff_le_and_ne.mpr ⟨hb, fun q => c13 q.symm⟩
                                by_cases c14 : k = 14
                                · exact xr_tabIn C (off := 416) 14 c14 ⟨by decide, by decide⟩ 448 dL_law_32 (by decide) (by decide) (by decide +kernel) (by decide) (law_f14 hL C hX hbl hi0 hi1 hb1 hK (hw.1 c14))
                                · have hw := hw.2
                                  have hb : (15 : Int) ≤ k := Int.lt_iff_le_and_ne.mpr ⟨hb, fun q => c14 q.symm⟩
                                  by_cases c15 : k = 15
                                  · exact xr_tabIn C (off := 429) 15 c15 ⟨by decide, by decide⟩ 461 dL_law_32 (by decide) (by decide) (by decide +kernel) (by decide) (law_f15 hL C hX hbl hi0 hi1 hb1 hK (hw.1 c15))
                                  · have hw := hw.2
                                    have hb : (16 : Int) ≤ k := Int.lt_iff_le_and_ne.mpr ⟨hb, fun q => c15 q.symm⟩
                                    by_cases c16 : k = 16
                                    · exact xr_tabIn C (off := 462) 16 c16 ⟨by decide, by decide⟩ 494 dL_law_32 (by decide) (by decide) (by decide +kernel) (by decide) (law_f16 hL C hX hbl hi0 hi1 hb1 hK (hw.1 c16))
                                    · have hw := hw.2
                                      have hb : (17 : Int) ≤ k := Int.lt_iff_le_and_ne.mpr ⟨hb, fun q => c16 q.symm⟩
                                      by_cases c17 : k = 17
                                      · exact xr_tabIn C (off := 495) 17 c17 ⟨by decide, by decide⟩ 527 dL_law_32 (by decide) (by decide) (by decide +kernel) (by decide) (law_f17 hL C hX hbl hi0 hi1 hb1 hK (hw.1 c17))
                                      · have hw := hw.2
                                        have hb : (18 : Int) ≤ k := Int.lt_iff_le_and_ne.mpr ⟨hb, fun q => c17 q.symm⟩
                                        by_cases c18 : k = 18
                                        · exact xr_tabIn C (off := 518) 18 c18 ⟨by decide, by decide⟩ 550 dL_law_32 (by decide) (by decide) (by decide +kernel) (by decide) (law_f18 hL C hX hbl hi0 hi1 hb1 hK (hw.1 c18))
                                        · have hw := hw.2
                                          have hb : (19 : Int) ≤ k := Int.lt_iff_le_and_ne.mpr ⟨hb, fun q => c18 q.symm⟩
                                          by_cases c19 : k = 19
                                          · exact xr_tabIn C (off := 577) 19 c19 ⟨by decide, by decide⟩ 609 dL_law_32 (by decide) (by decide) (by decide +kernel) (by decide) (law_f19 hL C hX hbl hi0 hi1 hb1 hK (hw.1 c19))
                                          · have hw := hw.2
                                            have hb : (20 : Int) ≤ k := Int.lt_iff_le_and_ne.mpr ⟨hb, fun q => c19 q.symm⟩
                                            by_cases c20 : k = 20
                                            · exact xr_tabIn C (off := 610) 20 c20 ⟨by decide, by decide⟩ 642 dL_law_32 (by decide) (by decide) (by decide +kernel) (by decide) (law_f20 hL C hX hbl hi0 hi1 hb1 hK (hw.1 c20))
                                            · have hw := hw.2
                                              have hb : (21 : Int) ≤ k := Int.lt_iff_le_and_ne.mpr ⟨hb, fun q => c20 q.symm⟩
                                              by_cases c21 : k = 21
                                              · exact xr_tabIn C (off := 633) 21 c21 ⟨by decide, by decide⟩ 665 dL_law_32 (by decide) (by decide) (by decide +kernel) (by decide) (law_f21 hL C hX hbl hi0 hi1 hb1 hK (hw c21))
                                              · exact absurd (Or.inr (Int.lt_iff_le_and_ne.mpr ⟨hb, fun q => c21 q.symm⟩)) h
set_option maxHeartbeats 8000000 in
set_option maxRecDepth 200000 in
theorem law_case_t {p : Program} {l : Launch} {e : Env} {s : State} {m : MethodId} {below : List Frame} {meth : Method} {c : Code} {D : va_G} {b L b1 : Nat} {xs : Nat → Int32} {cI cJ cZ : ClassId} {adm : Nat → Nat} {σ00 : xS} (hL : L ≤ 2048) (C : xC True p s m #[.ref b] meth c cL_law 4 RL wsL_law D vwCl (xtys cI cJ cZ) (fun q : Nat => s.heap.size ≤ q)) (hX : va_X b L xs s s.heap) (hbl : b < s.heap.size) {Rel : Bool → xS → Prop} {ad : Nat → Nat} {σ : xS} {i : Int} (hi0 : 0 ≤ i) (hi1 : i + 4 ≤ (L : Int)) (hb1 : ad 0 = b1) (hK : ∀ (P2 : Bool) (ad2 : Nat → Nat) (u : xS), ad2 0 = b1 → Rel P2 u → xX p l e room_1 s m #[.ref b] below meth c D vwCl (fun q : Nat => s.heap.size ≤ q) (wL P2 ad2 adm cI cJ cZ) FL σ00 (cL P2) (sL P2) (lw_Z below #[.ref b] s) 4 u 679 [(0, .ref b), (1, .ref b1), (2, .ref (adm 20)), (3, .int (i32 i))] []) {k : Int} (rk : rng k) (hw : lawS true k ((xs (i + 1).toNat).toInt) ((xs (i + 2).toNat).toInt) ((xs (i + 3).toNat).toInt) σ Rel) : xX p l e room_1 s m #[.ref b] below meth c D vwCl (fun q : Nat => s.heap.size ≤ q) (wL true ad adm cI cJ cZ) FL σ00 (cL true) (sL true) (lw_Z below #[.ref b] s) 4 σ 32 [(0, .ref b), (1, .ref b1), (2, .ref (adm 20)), (3, .int (i32 i))] [.int (i32 k)] := by
  unfold lawS at hw
  by_cases h : k < 0 ∨ 21 < k
  · exact xr_tabOut C rk 679 dL_law_32 h (by decide) (hK true ad σ hb1 (hw.1 h))
  · have hw := hw.2
    have hb : (0 : Int) ≤ k := Int.not_lt.mp (fun q => h (Or.inl q))
    by_cases c0 : k = 0
    · exact xr_tabIn C (off := 104) 0 c0 ⟨by decide, by decide⟩ 136 dL_law_32 (by decide) (by decide) (by decide +kernel) (by decide) (law_t0 hL C hX hbl hi0 hi1 hb1 hK (hw.1 c0))
    · have hw := hw.2
      have hb : (1 : Int) ≤ k := Int.lt_iff_le_and_ne.mpr ⟨hb, fun q => c0 q.symm⟩
      by_cases c1 : k = 1
      · exact xr_tabIn C (off := 127) 1 c1 ⟨by decide, by decide⟩ 159 dL_law_32 (by decide) (by decide) (by decide +kernel) (by decide) (law_t1 hL C hX hbl hi0 hi1 hb1 hK (hw.1 c1))
      · have hw := hw.2
        have hb : (2 : Int) ≤ k := Int.lt_iff_le_and_ne.mpr ⟨hb, fun q => c1 q.symm⟩
        by_cases c2 : k = 2
        · exact xr_tabIn C (off := 140) 2 c2 ⟨by decide, by decide⟩ 172 dL_law_32 (by decide) (by decide) (by decide +kernel) (by decide) (law_t2 hL C hX hbl hi0 hi1 hb1 hK (hw.1 c2))
        · have hw := hw.2
          have hb : (3 : Int) ≤ k := Int.lt_iff_le_and_ne.mpr ⟨hb, fun q => c2 q.symm⟩
          by_cases c3 : k = 3
          · exact xr_tabIn C (off := 153) 3 c3 ⟨by decide, by decide⟩ 185 dL_law_32 (by decide) (by decide) (by decide +kernel) (by decide) (law_t3 hL C hX hbl hi0 hi1 hb1 hK (hw.1 c3))
          · have hw := hw.2
            have hb : (4 : Int) ≤ k := Int.lt_iff_le_and_ne.mpr ⟨hb, fun q => c3 q.symm⟩
            by_cases c4 : k = 4
            · exact xr_tabIn C (off := 176) 4 c4 ⟨by decide, by decide⟩ 208 dL_law_32 (by decide) (by decide) (by decide +kernel) (by decide) (law_t4 hL C hX hbl hi0 hi1 hb1 hK (hw.1 c4))
            · have hw := hw.2
              have hb : (5 : Int) ≤ k := Int.lt_iff_le_and_ne.mpr ⟨hb, fun q => c4 q.symm⟩
              by_cases c5 : k = 5
              · exact xr_tabIn C (off := 209) 5 c5 ⟨by decide, by decide⟩ 241 dL_law_32 (by decide) (by decide) (by decide +kernel) (by decide) (law_t5 hL C hX hbl hi0 hi1 hb1 hK (hw.1 c5))
              · have hw := hw.2
                have hb : (6 : Int) ≤ k := Int.lt_iff_le_and_ne.mpr ⟨hb, fun q => c5 q.symm⟩
                by_cases c6 : k = 6
                · exact xr_tabIn C (off := 252) 6 c6 ⟨by decide, by decide⟩ 284 dL_law_32 (by decide) (by decide) (by decide +kernel) (by decide) (law_t6 hL C hX hbl hi0 hi1 hb1 hK (hw.1 c6))
                · have hw := hw.2
                  have hb : (7 : Int) ≤ k := Int.lt_iff_le_and_ne.mpr ⟨hb, fun q => c6 q.symm⟩
                  by_cases c7 : k = 7
                  · exact xr_tabIn C (off := 285) 7 c7 ⟨by decide, by decide⟩ 317 dL_law_32 (by decide) (by decide) (by decide +kernel) (by decide) (law_t7 hL C hX hbl hi0 hi1 hb1 hK (hw.1 c7))
                  · have hw := hw.2
                    have hb : (8 : Int) ≤ k := Int.lt_iff_le_and_ne.mpr ⟨hb, fun q => c7 q.symm⟩
                    by_cases c8 : k = 8
                    · exact xr_tabIn C (off := 308) 8 c8 ⟨by decide, by decide⟩ 340 dL_law_32 (by decide) (by decide) (by decide +kernel) (by decide) (law_t8 hL C hX hbl hi0 hi1 hb1 hK (hw.1 c8))
                    · have hw := hw.2
                      have hb : (9 : Int) ≤ k := Int.lt_iff_le_and_ne.mpr ⟨hb, fun q => c8 q.symm⟩
                      by_cases c9 : k = 9
                      · exact xr_tabIn C (off := 331) 9 c9 ⟨by decide, by decide⟩ 363 dL_law_32 (by decide) (by decide) (by decide +kernel) (by decide) (law_t9 hL C hX hbl hi0 hi1 hb1 hK (hw.1 c9))
                      · have hw := hw.2
                        have hb : (10 : Int) ≤ k := Int.lt_iff_le_and_ne.mpr ⟨hb, fun q => c9 q.symm⟩
                        by_cases c10 : k = 10
                        · exact xr_tabIn C (off := 354) 10 c10 ⟨by decide, by decide⟩ 386 dL_law_32 (by decide) (by decide) (by decide +kernel) (by decide) (law_t10 hL C hX hbl hi0 hi1 hb1 hK (hw.1 c10))
                        · have hw := hw.2
                          have hb : (11 : Int) ≤ k := Int.lt_iff_le_and_ne.mpr ⟨hb, fun q => c10 q.symm⟩
                          by_cases c11 : k = 11
                          · exact xr_tabIn C (off := 377) 11 c11 ⟨by decide, by decide⟩ 409 dL_law_32 (by decide) (by decide) (by decide +kernel) (by decide) (law_t11 hL C hX hbl hi0 hi1 hb1 hK (hw.1 c11))
                          · have hw := hw.2
                            have hb : (12 : Int) ≤ k := Int.lt_iff_le_and_ne.mpr ⟨hb, fun q => c11 q.symm⟩
                            by_cases c12 : k = 12
                            · exact xr_tabIn C (off := 390) 12 c12 ⟨by decide, by decide⟩ 422 dL_law_32 (by decide) (by decide) (by decide +kernel) (by decide) (law_t12 hL C hX hbl hi0 hi1 hb1 hK (hw.1 c12))
                            · have hw := hw.2
                              have hb : (13 : Int) ≤ k := Int.lt_iff_le_and_ne.mpr ⟨hb, fun q => c12 q.symm⟩
                              by_cases c13 : k = 13
                              · exact xr_tabIn C (off := 403) 13 c13 ⟨by decide, by decide⟩ 435 dL_law_32 (by decide) (by decide) (by decide +kernel) (by decide) (law_t13 hL C hX hbl hi0 hi1 hb1 hK (hw.1 c13))
                              · have hw := hw.2
                                have hb : (14 : Int) ≤ k := Int.lt_iff_le_and_ne.mpr ⟨hb, fun q => c13 q.symm⟩
                                by_cases c14 : k = 14
                                · exact xr_tabIn C (off := 416) 14 c14 ⟨by decide, by decide⟩ 448 dL_law_32 (by decide) (by decide) (by decide +kernel) (by decide) (law_t14 hL C hX hbl hi0 hi1 hb1 hK (hw.1 c14))
                                · have hw := hw.2
                                  have hb : (15 : Int) ≤ k := Int.lt_iff_le_and_ne.mpr ⟨hb, fun q => c14 q.symm⟩
                                  by_cases c15 : k = 15
                                  · exact xr_tabIn C (off := 429) 15 c15 ⟨by decide, by decide⟩ 461 dL_law_32 (by decide) (by decide) (by decide +kernel) (by decide) (law_t15 hL C hX hbl hi0 hi1 hb1 hK (hw.1 c15))
                                  · have hw := hw.2
                                    have hb : (16 : Int) ≤ k := Int.lt_iff_le_and_ne.mpr ⟨hb, fun q => c15 q.symm⟩
                                    by_cases c16 : k = 16
                                    · exact xr_tabIn C (off := 462) 16 c16 ⟨by decide, by decide⟩ 494 dL_law_32 (by decide) (by decide) (by decide +kernel) (by decide) (law_t16 hL C hX hbl hi0 hi1 hb1 hK (hw.1 c16))
                                    · have hw := hw.2
                                      have hb : (17 : Int) ≤ k := Int.lt_iff_le_and_ne.mpr ⟨hb, fun q => c16 q.symm⟩
                                      by_cases c17 : k = 17
                                      · exact xr_tabIn C (off := 495) 17 c17 ⟨by decide, by decide⟩ 527 dL_law_32 (by decide) (by decide) (by decide +kernel) (by decide) (law_t17 hL C hX hbl hi0 hi1 hb1 hK (hw.1 c17))
                                      · have hw := hw.2
                                        have hb : (18 : Int) ≤ k := Int.lt_iff_le_and_ne.mpr ⟨hb, fun q => c17 q.symm⟩
                                        by_cases c18 : k = 18
                                        · exact xr_tabIn C (off := 518) 18 c18 ⟨by decide, by decide⟩ 550 dL_law_32 (by decide) (by decide) (by decide +kernel) (by decide) (law_t18 hL C hX hbl hi0 hi1 hb1 hK (hw.1 c18))
                                        · have hw := hw.2
                                          have hb : (19 : Int) ≤ k := Int.lt_iff_le_and_ne.mpr ⟨hb, fun q => c18 q.symm⟩
                                          by_cases c19 : k = 19
                                          · exact xr_tabIn C (off := 577) 19 c19 ⟨by decide, by decide⟩ 609 dL_law_32 (by decide) (by decide) (by decide +kernel) (by decide) (law_t19 hL C hX hbl hi0 hi1 hb1 hK (hw.1 c19))
                                          · have hw := hw.2
                                            have hb : (20 : Int) ≤ k := Int.lt_iff_le_and_ne.mpr ⟨hb, fun q => c19 q.symm⟩
                                            by_cases c20 : k = 20
                                            · exact xr_tabIn C (off := 610) 20 c20 ⟨by decide, by decide⟩ 642 dL_law_32 (by decide) (by decide) (by decide +kernel) (by decide) (law_t20 hL C hX hbl hi0 hi1 hb1 hK (hw.1 c20))
                                            · have hw := hw.2
                                              have hb : (21 : Int) ≤ k := Int.lt_iff_le_and_ne.mpr ⟨hb, fun q => c20 q.symm⟩
                                              by_cases c21 : k = 21
                                              · exact xr_tabIn C (off := 633) 21 c21 ⟨by decide, by decide⟩ 665 dL_law_32 (by decide) (by decide) (by decide +kernel) (by decide) (law_t21 hL C hX hbl hi0 hi1 hb1 hK (hw c21))
                                              · exact absurd (Or.inr (Int.lt_iff_le_and_ne.mpr ⟨hb, fun q => c21 q.symm⟩)) h
set_option maxHeartbeats 8000000 in
set_option maxRecDepth 200000 in
theorem law_loop {p : Program} {l : Launch} {e : Env} {s : State} {m : MethodId} {below : List Frame} {meth : Method} {c : Code} {D : va_G} {b L b1 : Nat} {xs : Nat → Int32} {cI cJ cZ : ClassId} {adm : Nat → Nat} {σ00 : xS} (hL : L ≤ 2048) (C : xC True p s m #[.ref b] meth c cL_law 4 RL wsL_law D vwCl (xtys cI cJ cZ) (fun q : Nat => s.heap.size ≤ q)) (hX : va_X b L xs s s.heap) (hbl : b < s.heap.size) (hr : meth.sig.returnType = ret) {Rel : Bool → xS → Prop} (hstep : ∀ (P : Bool) (k a b c : Int) (σ : xS), rng k → rng a → rng b → rng c → Rel P σ → lawS P k a b c σ Rel) : ∀ (n : Nat) (i : Int) (P : Bool) (ad : Nat → Nat) (σ : xS), ad 0 = b1 → Rel P σ → 0 ≤ i → i ≤ (L : Int) → (L : Int) + 4 ≤ i + 4 * (n : Int) → xX p l e room_1 s m #[.ref b] below meth c D vwCl (fun q : Nat => s.heap.size ≤ q) (wL P ad adm cI cJ cZ) FL σ00 (cL P) (sL P) (lw_Z below #[.ref b] s) 4 σ 18 [(0, .ref b), (1, .ref b1), (2, .ref (adm 20)), (3, .int (i32 i))] [] := by
  have hbA : ¬ (fun q : Nat => s.heap.size ≤ q) b := Nat.not_le.mpr hbl
  intro n
  induction n with
  | zero =>
    intro i P ad σ _ _ _ h1 h2
    exact absurd h2 (by omega)
  | succ n ih =>
    intro i P ad σ hb1 hR hi0 hi1 hn
    refine xr_iload_n C 3 dL_law_18 rfl rfl ?_
    refine xr_aload_n C 0 dL_law_19 rfl rfl ?_
    refine xr_slen C hX hbl hbA dL_law_20 ?_
    refine xr_iconst C dL_law_21 ?_
    refine xr_isub C dL_law_22 ?_
    refine xr_icmp_gt C ⟨by omega, by omega⟩ ⟨by omega, by omega⟩ 685 dL_law_23 (by decide) (fun hgt => ?_) (fun hgt => ?_)
    · refine xr_iconst C dL_law_685 ?_
      intro hF H locs ls hP hD hS hl
      refine va_forget (fun q hq => hS.2.2 q hq) ?_
      refine W.widen (k := 600000) (n := 7302250) (by cases P <;> exact Nat.le_of_ble_eq_true rfl) (by cases P <;> exact Nat.le_of_ble_eq_true rfl) ?_
      exact lw_ret C.1 C.2.1 hr C.2.2.2.2.2.2.2.1 dL_law_686
    · have hi2 : i + 4 ≤ (L : Int) := by omega
      refine xr_aload_n C 0 dL_law_26 rfl rfl ?_
      refine xr_iload_n C 3 dL_law_27 rfl rfl ?_
      refine xr_sld C hX hbl hbA hL (i := i) ⟨by omega, by omega⟩ dL_law_28 ?_
      refine xr_bipush C dL_law_29 (by decide +kernel) ?_
      refine xr_iand C dL_law_31 ?_
      have hK : ∀ (P2 : Bool) (ad2 : Nat → Nat) (u : xS), ad2 0 = b1 → Rel P2 u → xX p l e room_1 s m #[.ref b] below meth c D vwCl (fun q : Nat => s.heap.size ≤ q) (wL P2 ad2 adm cI cJ cZ) FL σ00 (cL P2) (sL P2) (lw_Z below #[.ref b] s) 4 u 679 [(0, .ref b), (1, .ref b1), (2, .ref (adm 20)), (3, .int (i32 i))] [] := by
        intro P2 ad2 u hb2 hR2
        refine xr_iinc C 3 [(0, .ref b), (1, .ref b1), (2, .ref (adm 20)), (3, .int (i32 (i + 4)))] dL_law_679 rfl (by decide) rfl ?_
        refine xr_goto C 18 dL_law_682 (by decide) ?_
        exact ih (i + 4) P2 ad2 u hb2 hR2 (by omega) hi2 (by omega)
      have hw := hstep P (jand (xs i.toNat).toInt 31) _ _ _ σ (i32_rng _) (i32_rng (xs (i + 1).toNat)) (i32_rng (xs (i + 2).toNat)) (i32_rng (xs (i + 3).toNat)) hR
      cases P with
      | false => exact law_case_f hL C hX hbl hi0 hi2 hb1 hK (i32_rng _) hw
      | true => exact law_case_t hL C hX hbl hi0 hi2 hb1 hK (i32_rng _) hw
