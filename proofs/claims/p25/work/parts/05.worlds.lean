abbrev xtys (cI _cJ _cZ : ClassId) : List (ClassId × FieldType) := [(cI, .int)]
def wN : xS → va_W := fun _ => []
def wB (ad : Nat → Nat) (cI cJ cZ : ClassId) (σ : xS) : va_W := [(ad 7, .inr (0, [.ref (ad 8)])), (ad 8, .inl (cI, 63, .inl (fun j => i32 (σ 8 j))))]
def wRB (ad : Nat → Nat) (cI cJ cZ : ClassId) (σ : xS) : va_W := [(ad 6, .inl (cI, 504, .inl (fun j => i32 (σ 6 j)))), (ad 7, .inr (0, [.ref (ad 8)])), (ad 8, .inl (cI, 63, .inl (fun j => i32 (σ 8 j))))]
def wHB (ad : Nat → Nat) (cI cJ cZ : ClassId) (σ : xS) : va_W := [(ad 5, .inr (1, [.ref (ad 6), .int (i32 (σ 5 1)), .int (i32 (σ 5 2))])), (ad 6, .inl (cI, 504, .inl (fun j => i32 (σ 6 j)))), (ad 7, .inr (0, [.ref (ad 8)])), (ad 8, .inl (cI, 63, .inl (fun j => i32 (σ 8 j))))]
def wS (ad : Nat → Nat) (cI cJ cZ : ClassId) (σ : xS) : va_W := [(ad 1, .inr (2, [.ref (ad 2), .int (i32 (σ 1 1)), .ref (ad 3), .ref (ad 4), .int (i32 (σ 1 4)), .int (i32 (σ 1 5)), .int (i32 (σ 1 6)), .int (i32 (σ 1 7))])), (ad 2, .inl (cI, 60, .inl (fun j => i32 (σ 2 j)))), (ad 3, .inl (cI, 100, .inl (fun j => i32 (σ 3 j)))), (ad 4, .inl (cI, 100, .inl (fun j => i32 (σ 4 j))))]
def wX (pv : Value) (ad : Nat → Nat) (cI cJ cZ : ClassId) (σ : xS) : va_W := [(ad 0, .inr (3, [.ref (ad 7), .ref (ad 5), .ref (ad 1), pv])), (ad 1, .inr (2, [.ref (ad 2), .int (i32 (σ 1 1)), .ref (ad 3), .ref (ad 4), .int (i32 (σ 1 4)), .int (i32 (σ 1 5)), .int (i32 (σ 1 6)), .int (i32 (σ 1 7))])), (ad 2, .inl (cI, 60, .inl (fun j => i32 (σ 2 j)))), (ad 3, .inl (cI, 100, .inl (fun j => i32 (σ 3 j)))), (ad 4, .inl (cI, 100, .inl (fun j => i32 (σ 4 j)))), (ad 5, .inr (1, [.ref (ad 6), .int (i32 (σ 5 1)), .int (i32 (σ 5 2))])), (ad 6, .inl (cI, 504, .inl (fun j => i32 (σ 6 j)))), (ad 7, .inr (0, [.ref (ad 8)])), (ad 8, .inl (cI, 63, .inl (fun j => i32 (σ 8 j))))]
def wA (ad : Nat → Nat) (cI cJ cZ : ClassId) (σ : xS) : va_W := [(ad 40, .inl (cI, 64, .inl (fun j => i32 (σ 40 j))))]
def wXA (pv : Value) (ad : Nat → Nat) (cI cJ cZ : ClassId) (σ : xS) : va_W := [(ad 0, .inr (3, [.ref (ad 7), .ref (ad 5), .ref (ad 1), pv])), (ad 1, .inr (2, [.ref (ad 2), .int (i32 (σ 1 1)), .ref (ad 3), .ref (ad 4), .int (i32 (σ 1 4)), .int (i32 (σ 1 5)), .int (i32 (σ 1 6)), .int (i32 (σ 1 7))])), (ad 2, .inl (cI, 60, .inl (fun j => i32 (σ 2 j)))), (ad 3, .inl (cI, 100, .inl (fun j => i32 (σ 3 j)))), (ad 4, .inl (cI, 100, .inl (fun j => i32 (σ 4 j)))), (ad 5, .inr (1, [.ref (ad 6), .int (i32 (σ 5 1)), .int (i32 (σ 5 2))])), (ad 6, .inl (cI, 504, .inl (fun j => i32 (σ 6 j)))), (ad 7, .inr (0, [.ref (ad 8)])), (ad 8, .inl (cI, 63, .inl (fun j => i32 (σ 8 j)))), (ad 40, .inl (cI, 64, .inl (fun j => i32 (σ 40 j))))]
theorem wB_st8 {ad : Nat → Nat} {cI cJ cZ : ClassId} {σ : xS} {v : Int} : ∀ k, (wB ad cI cJ cZ σ).set 1 (ad 8, .inl (cI, 63, .inl (upd (fun j => i32 (σ 8 j)) k (i32 v)))) = wB ad cI cJ cZ (xup σ 8 k v) := fun k => by
  rw [xupd_i]
  rfl
theorem wRB_st6 {ad : Nat → Nat} {cI cJ cZ : ClassId} {σ : xS} {v : Int} : ∀ k, (wRB ad cI cJ cZ σ).set 0 (ad 6, .inl (cI, 504, .inl (upd (fun j => i32 (σ 6 j)) k (i32 v)))) = wRB ad cI cJ cZ (xup σ 6 k v) := fun k => by
  rw [xupd_i]
  rfl
theorem wRB_st8 {ad : Nat → Nat} {cI cJ cZ : ClassId} {σ : xS} {v : Int} : ∀ k, (wRB ad cI cJ cZ σ).set 2 (ad 8, .inl (cI, 63, .inl (upd (fun j => i32 (σ 8 j)) k (i32 v)))) = wRB ad cI cJ cZ (xup σ 8 k v) := fun k => by
  rw [xupd_i]
  rfl
theorem wHB_st6 {ad : Nat → Nat} {cI cJ cZ : ClassId} {σ : xS} {v : Int} : ∀ k, (wHB ad cI cJ cZ σ).set 1 (ad 6, .inl (cI, 504, .inl (upd (fun j => i32 (σ 6 j)) k (i32 v)))) = wHB ad cI cJ cZ (xup σ 6 k v) := fun k => by
  rw [xupd_i]
  rfl
theorem wHB_st8 {ad : Nat → Nat} {cI cJ cZ : ClassId} {σ : xS} {v : Int} : ∀ k, (wHB ad cI cJ cZ σ).set 3 (ad 8, .inl (cI, 63, .inl (upd (fun j => i32 (σ 8 j)) k (i32 v)))) = wHB ad cI cJ cZ (xup σ 8 k v) := fun k => by
  rw [xupd_i]
  rfl
theorem wS_st2 {ad : Nat → Nat} {cI cJ cZ : ClassId} {σ : xS} {v : Int} : ∀ k, (wS ad cI cJ cZ σ).set 1 (ad 2, .inl (cI, 60, .inl (upd (fun j => i32 (σ 2 j)) k (i32 v)))) = wS ad cI cJ cZ (xup σ 2 k v) := fun k => by
  rw [xupd_i]
  rfl
theorem wS_st3 {ad : Nat → Nat} {cI cJ cZ : ClassId} {σ : xS} {v : Int} : ∀ k, (wS ad cI cJ cZ σ).set 2 (ad 3, .inl (cI, 100, .inl (upd (fun j => i32 (σ 3 j)) k (i32 v)))) = wS ad cI cJ cZ (xup σ 3 k v) := fun k => by
  rw [xupd_i]
  rfl
theorem wS_st4 {ad : Nat → Nat} {cI cJ cZ : ClassId} {σ : xS} {v : Int} : ∀ k, (wS ad cI cJ cZ σ).set 3 (ad 4, .inl (cI, 100, .inl (upd (fun j => i32 (σ 4 j)) k (i32 v)))) = wS ad cI cJ cZ (xup σ 4 k v) := fun k => by
  rw [xupd_i]
  rfl
theorem wX_st2 {pv : Value} {ad : Nat → Nat} {cI cJ cZ : ClassId} {σ : xS} {v : Int} : ∀ k, (wX pv ad cI cJ cZ σ).set 2 (ad 2, .inl (cI, 60, .inl (upd (fun j => i32 (σ 2 j)) k (i32 v)))) = wX pv ad cI cJ cZ (xup σ 2 k v) := fun k => by
  rw [xupd_i]
  rfl
theorem wX_st3 {pv : Value} {ad : Nat → Nat} {cI cJ cZ : ClassId} {σ : xS} {v : Int} : ∀ k, (wX pv ad cI cJ cZ σ).set 3 (ad 3, .inl (cI, 100, .inl (upd (fun j => i32 (σ 3 j)) k (i32 v)))) = wX pv ad cI cJ cZ (xup σ 3 k v) := fun k => by
  rw [xupd_i]
  rfl
theorem wX_st4 {pv : Value} {ad : Nat → Nat} {cI cJ cZ : ClassId} {σ : xS} {v : Int} : ∀ k, (wX pv ad cI cJ cZ σ).set 4 (ad 4, .inl (cI, 100, .inl (upd (fun j => i32 (σ 4 j)) k (i32 v)))) = wX pv ad cI cJ cZ (xup σ 4 k v) := fun k => by
  rw [xupd_i]
  rfl
theorem wX_st6 {pv : Value} {ad : Nat → Nat} {cI cJ cZ : ClassId} {σ : xS} {v : Int} : ∀ k, (wX pv ad cI cJ cZ σ).set 6 (ad 6, .inl (cI, 504, .inl (upd (fun j => i32 (σ 6 j)) k (i32 v)))) = wX pv ad cI cJ cZ (xup σ 6 k v) := fun k => by
  rw [xupd_i]
  rfl
theorem wX_st8 {pv : Value} {ad : Nat → Nat} {cI cJ cZ : ClassId} {σ : xS} {v : Int} : ∀ k, (wX pv ad cI cJ cZ σ).set 8 (ad 8, .inl (cI, 63, .inl (upd (fun j => i32 (σ 8 j)) k (i32 v)))) = wX pv ad cI cJ cZ (xup σ 8 k v) := fun k => by
  rw [xupd_i]
  rfl
theorem wA_st40 {ad : Nat → Nat} {cI cJ cZ : ClassId} {σ : xS} {v : Int} : ∀ k, (wA ad cI cJ cZ σ).set 0 (ad 40, .inl (cI, 64, .inl (upd (fun j => i32 (σ 40 j)) k (i32 v)))) = wA ad cI cJ cZ (xup σ 40 k v) := fun k => by
  rw [xupd_i]
  rfl
theorem wXA_st2 {pv : Value} {ad : Nat → Nat} {cI cJ cZ : ClassId} {σ : xS} {v : Int} : ∀ k, (wXA pv ad cI cJ cZ σ).set 2 (ad 2, .inl (cI, 60, .inl (upd (fun j => i32 (σ 2 j)) k (i32 v)))) = wXA pv ad cI cJ cZ (xup σ 2 k v) := fun k => by
  rw [xupd_i]
  rfl
theorem wXA_st3 {pv : Value} {ad : Nat → Nat} {cI cJ cZ : ClassId} {σ : xS} {v : Int} : ∀ k, (wXA pv ad cI cJ cZ σ).set 3 (ad 3, .inl (cI, 100, .inl (upd (fun j => i32 (σ 3 j)) k (i32 v)))) = wXA pv ad cI cJ cZ (xup σ 3 k v) := fun k => by
  rw [xupd_i]
  rfl
theorem wXA_st4 {pv : Value} {ad : Nat → Nat} {cI cJ cZ : ClassId} {σ : xS} {v : Int} : ∀ k, (wXA pv ad cI cJ cZ σ).set 4 (ad 4, .inl (cI, 100, .inl (upd (fun j => i32 (σ 4 j)) k (i32 v)))) = wXA pv ad cI cJ cZ (xup σ 4 k v) := fun k => by
  rw [xupd_i]
  rfl
theorem wXA_st6 {pv : Value} {ad : Nat → Nat} {cI cJ cZ : ClassId} {σ : xS} {v : Int} : ∀ k, (wXA pv ad cI cJ cZ σ).set 6 (ad 6, .inl (cI, 504, .inl (upd (fun j => i32 (σ 6 j)) k (i32 v)))) = wXA pv ad cI cJ cZ (xup σ 6 k v) := fun k => by
  rw [xupd_i]
  rfl
theorem wXA_st8 {pv : Value} {ad : Nat → Nat} {cI cJ cZ : ClassId} {σ : xS} {v : Int} : ∀ k, (wXA pv ad cI cJ cZ σ).set 8 (ad 8, .inl (cI, 63, .inl (upd (fun j => i32 (σ 8 j)) k (i32 v)))) = wXA pv ad cI cJ cZ (xup σ 8 k v) := fun k => by
  rw [xupd_i]
  rfl
theorem wXA_st40 {pv : Value} {ad : Nat → Nat} {cI cJ cZ : ClassId} {σ : xS} {v : Int} : ∀ k, (wXA pv ad cI cJ cZ σ).set 9 (ad 40, .inl (cI, 64, .inl (upd (fun j => i32 (σ 40 j)) k (i32 v)))) = wXA pv ad cI cJ cZ (xup σ 40 k v) := fun k => by
  rw [xupd_i]
  rfl
theorem xcpy_i (f g : Nat → Int) (sp dp n : Nat) : va_cpy (fun j => i32 (f j)) (fun j => i32 (g j)) sp dp n = fun j => i32 (va_cpy f g sp dp n j) := by
  funext j
  unfold va_cpy
  by_cases h : dp ≤ j ∧ j < dp + n <;> simp [h]
theorem wRB_cp6 {ad : Nat → Nat} {cI cJ cZ : ClassId} {σ : xS} {f : Nat → Int} : ∀ sp dp n, (wRB ad cI cJ cZ σ).set 0 (ad 6, .inl (cI, 504, .inl (va_cpy (fun j => i32 (f j)) (fun j => i32 (σ 6 j)) sp dp n))) = wRB ad cI cJ cZ (xset σ 6 (va_cpy f (σ 6) sp dp n)) := fun sp dp n => by
  rw [xcpy_i]
  rfl
theorem wRB_cp8 {ad : Nat → Nat} {cI cJ cZ : ClassId} {σ : xS} {f : Nat → Int} : ∀ sp dp n, (wRB ad cI cJ cZ σ).set 2 (ad 8, .inl (cI, 63, .inl (va_cpy (fun j => i32 (f j)) (fun j => i32 (σ 8 j)) sp dp n))) = wRB ad cI cJ cZ (xset σ 8 (va_cpy f (σ 8) sp dp n)) := fun sp dp n => by
  rw [xcpy_i]
  rfl
theorem sp_wHB_wRB (ad : Nat → Nat) (cI cJ cZ : ClassId) : xSp (wHB ad cI cJ cZ) (wRB ad cI cJ cZ) [6, 7, 8] := ⟨fun σ => [(ad 5, .inr (1, [.ref (ad 6), .int (i32 (σ 5 1)), .int (i32 (σ 5 2))]))], fun σ => [], fun _ => rfl, fun u u' h => by
  have h5 : u 5 = u' 5 := h 5 (by decide)
  refine ⟨?_, ?_⟩
  · simp only [h5]
  · rfl⟩
theorem sp_wX_wS (pv : Value) (ad : Nat → Nat) (cI cJ cZ : ClassId) : xSp (wX pv ad cI cJ cZ) (wS ad cI cJ cZ) [1, 2, 3, 4] := ⟨fun σ => [(ad 0, .inr (3, [.ref (ad 7), .ref (ad 5), .ref (ad 1), pv]))], fun σ => [(ad 5, .inr (1, [.ref (ad 6), .int (i32 (σ 5 1)), .int (i32 (σ 5 2))])), (ad 6, .inl (cI, 504, .inl (fun j => i32 (σ 6 j)))), (ad 7, .inr (0, [.ref (ad 8)])), (ad 8, .inl (cI, 63, .inl (fun j => i32 (σ 8 j))))], fun _ => rfl, fun u u' h => by
  have h0 : u 0 = u' 0 := h 0 (by decide)
  have h5 : u 5 = u' 5 := h 5 (by decide)
  have h6 : u 6 = u' 6 := h 6 (by decide)
  have h7 : u 7 = u' 7 := h 7 (by decide)
  have h8 : u 8 = u' 8 := h 8 (by decide)
  refine ⟨?_, ?_⟩
  · rfl
  · simp only [h5, h6, h8]⟩
theorem sp_wX_wHB (pv : Value) (ad : Nat → Nat) (cI cJ cZ : ClassId) : xSp (wX pv ad cI cJ cZ) (wHB ad cI cJ cZ) [5, 6, 7, 8] := ⟨fun σ => [(ad 0, .inr (3, [.ref (ad 7), .ref (ad 5), .ref (ad 1), pv])), (ad 1, .inr (2, [.ref (ad 2), .int (i32 (σ 1 1)), .ref (ad 3), .ref (ad 4), .int (i32 (σ 1 4)), .int (i32 (σ 1 5)), .int (i32 (σ 1 6)), .int (i32 (σ 1 7))])), (ad 2, .inl (cI, 60, .inl (fun j => i32 (σ 2 j)))), (ad 3, .inl (cI, 100, .inl (fun j => i32 (σ 3 j)))), (ad 4, .inl (cI, 100, .inl (fun j => i32 (σ 4 j))))], fun σ => [], fun _ => rfl, fun u u' h => by
  have h0 : u 0 = u' 0 := h 0 (by decide)
  have h1 : u 1 = u' 1 := h 1 (by decide)
  have h2 : u 2 = u' 2 := h 2 (by decide)
  have h3 : u 3 = u' 3 := h 3 (by decide)
  have h4 : u 4 = u' 4 := h 4 (by decide)
  refine ⟨?_, ?_⟩
  · simp only [h1, h2, h3, h4]
  · rfl⟩
theorem sp_wX_wB (pv : Value) (ad : Nat → Nat) (cI cJ cZ : ClassId) : xSp (wX pv ad cI cJ cZ) (wB ad cI cJ cZ) [7, 8] := ⟨fun σ => [(ad 0, .inr (3, [.ref (ad 7), .ref (ad 5), .ref (ad 1), pv])), (ad 1, .inr (2, [.ref (ad 2), .int (i32 (σ 1 1)), .ref (ad 3), .ref (ad 4), .int (i32 (σ 1 4)), .int (i32 (σ 1 5)), .int (i32 (σ 1 6)), .int (i32 (σ 1 7))])), (ad 2, .inl (cI, 60, .inl (fun j => i32 (σ 2 j)))), (ad 3, .inl (cI, 100, .inl (fun j => i32 (σ 3 j)))), (ad 4, .inl (cI, 100, .inl (fun j => i32 (σ 4 j)))), (ad 5, .inr (1, [.ref (ad 6), .int (i32 (σ 5 1)), .int (i32 (σ 5 2))])), (ad 6, .inl (cI, 504, .inl (fun j => i32 (σ 6 j))))], fun σ => [], fun _ => rfl, fun u u' h => by
  have h0 : u 0 = u' 0 := h 0 (by decide)
  have h1 : u 1 = u' 1 := h 1 (by decide)
  have h2 : u 2 = u' 2 := h 2 (by decide)
  have h3 : u 3 = u' 3 := h 3 (by decide)
  have h4 : u 4 = u' 4 := h 4 (by decide)
  have h5 : u 5 = u' 5 := h 5 (by decide)
  have h6 : u 6 = u' 6 := h 6 (by decide)
  refine ⟨?_, ?_⟩
  · simp only [h1, h2, h3, h4, h5, h6]
  · rfl⟩
theorem sp_wXA_wX (pv : Value) (ad : Nat → Nat) (cI cJ cZ : ClassId) : xSp (wXA pv ad cI cJ cZ) (wX pv ad cI cJ cZ) [0, 1, 2, 3, 4, 5, 6, 7, 8] := ⟨fun σ => [], fun σ => [(ad 40, .inl (cI, 64, .inl (fun j => i32 (σ 40 j))))], fun _ => rfl, fun u u' h => by
  have h40 : u 40 = u' 40 := h 40 (by decide)
  refine ⟨?_, ?_⟩
  · rfl
  · simp only [h40]⟩
theorem sp_wXA_wA (pv : Value) (ad : Nat → Nat) (cI cJ cZ : ClassId) : xSp (wXA pv ad cI cJ cZ) (wA ad cI cJ cZ) [40] := ⟨fun σ => [(ad 0, .inr (3, [.ref (ad 7), .ref (ad 5), .ref (ad 1), pv])), (ad 1, .inr (2, [.ref (ad 2), .int (i32 (σ 1 1)), .ref (ad 3), .ref (ad 4), .int (i32 (σ 1 4)), .int (i32 (σ 1 5)), .int (i32 (σ 1 6)), .int (i32 (σ 1 7))])), (ad 2, .inl (cI, 60, .inl (fun j => i32 (σ 2 j)))), (ad 3, .inl (cI, 100, .inl (fun j => i32 (σ 3 j)))), (ad 4, .inl (cI, 100, .inl (fun j => i32 (σ 4 j)))), (ad 5, .inr (1, [.ref (ad 6), .int (i32 (σ 5 1)), .int (i32 (σ 5 2))])), (ad 6, .inl (cI, 504, .inl (fun j => i32 (σ 6 j)))), (ad 7, .inr (0, [.ref (ad 8)])), (ad 8, .inl (cI, 63, .inl (fun j => i32 (σ 8 j))))], fun σ => [], fun _ => rfl, fun u u' h => by
  have h0 : u 0 = u' 0 := h 0 (by decide)
  have h1 : u 1 = u' 1 := h 1 (by decide)
  have h2 : u 2 = u' 2 := h 2 (by decide)
  have h3 : u 3 = u' 3 := h 3 (by decide)
  have h4 : u 4 = u' 4 := h 4 (by decide)
  have h5 : u 5 = u' 5 := h 5 (by decide)
  have h6 : u 6 = u' 6 := h 6 (by decide)
  have h7 : u 7 = u' 7 := h 7 (by decide)
  have h8 : u 8 = u' 8 := h 8 (by decide)
  refine ⟨?_, ?_⟩
  · simp only [h1, h2, h3, h4, h5, h6, h8]
  · rfl⟩
