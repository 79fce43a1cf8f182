abbrev xtys (cI cJ cZ : ClassId) : List (ClassId × FieldType) := [(cI, .int), (cJ, .long), (cZ, .boolean)]
def wN : xS → va_W := fun _ => []
def wB (ad : Nat → Nat) (cI cJ cZ : ClassId) (σ : xS) : va_W := [(ad 7, .inr (0, [.ref (ad 8)])), (ad 8, .inl (cI, 63, .inl (fun j => i32 (σ 8 j))))]
def wRB (ad : Nat → Nat) (cI cJ cZ : ClassId) (σ : xS) : va_W := [(ad 6, .inl (cI, 504, .inl (fun j => i32 (σ 6 j)))), (ad 7, .inr (0, [.ref (ad 8)])), (ad 8, .inl (cI, 63, .inl (fun j => i32 (σ 8 j))))]
def wHB (ad : Nat → Nat) (cI cJ cZ : ClassId) (σ : xS) : va_W := [(ad 5, .inr (1, [.ref (ad 6), .int (i32 (σ 5 1)), .int (i32 (σ 5 2))])), (ad 6, .inl (cI, 504, .inl (fun j => i32 (σ 6 j)))), (ad 7, .inr (0, [.ref (ad 8)])), (ad 8, .inl (cI, 63, .inl (fun j => i32 (σ 8 j))))]
def wS (ad : Nat → Nat) (cI cJ cZ : ClassId) (σ : xS) : va_W := [(ad 1, .inr (3, [.ref (ad 2), .int (i32 (σ 1 1)), .ref (ad 3), .ref (ad 4), .int (i32 (σ 1 4)), .int (i32 (σ 1 5)), .int (i32 (σ 1 6)), .int (i32 (σ 1 7))])), (ad 2, .inl (cI, 60, .inl (fun j => i32 (σ 2 j)))), (ad 3, .inl (cI, 100, .inl (fun j => i32 (σ 3 j)))), (ad 4, .inl (cI, 100, .inl (fun j => i32 (σ 4 j))))]
def wP (ad : Nat → Nat) (cI cJ cZ : ClassId) (σ : xS) : va_W := [(ad 9, .inr (2, [.int (i32 (σ 9 0)), .int (i32 (σ 9 1)), .ref (ad 10), .int (i32 (σ 9 3)), .ref (ad 11), .ref (ad 12), .int (i32 (σ 9 6)), .ref (ad 13), .ref (ad 14), .int (i32 (σ 9 9)), .int (i32 (σ 9 10))])), (ad 10, .inl (cI, 8, .inl (fun j => i32 (σ 10 j)))), (ad 11, .inl (cI, 469, .inl (fun j => i32 (σ 11 j)))), (ad 12, .inl (cI, 4096, .inl (fun j => i32 (σ 12 j)))), (ad 13, .inl (cI, 3760, .inl (fun j => i32 (σ 13 j)))), (ad 14, .inl (cJ, 11725, .inr (.inl (fun j => i64 (σ 14 j)))))]
def wBP (ad : Nat → Nat) (cI cJ cZ : ClassId) (σ : xS) : va_W := [(ad 7, .inr (0, [.ref (ad 8)])), (ad 8, .inl (cI, 63, .inl (fun j => i32 (σ 8 j)))), (ad 9, .inr (2, [.int (i32 (σ 9 0)), .int (i32 (σ 9 1)), .ref (ad 10), .int (i32 (σ 9 3)), .ref (ad 11), .ref (ad 12), .int (i32 (σ 9 6)), .ref (ad 13), .ref (ad 14), .int (i32 (σ 9 9)), .int (i32 (σ 9 10))])), (ad 10, .inl (cI, 8, .inl (fun j => i32 (σ 10 j)))), (ad 11, .inl (cI, 469, .inl (fun j => i32 (σ 11 j)))), (ad 12, .inl (cI, 4096, .inl (fun j => i32 (σ 12 j)))), (ad 13, .inl (cI, 3760, .inl (fun j => i32 (σ 13 j)))), (ad 14, .inl (cJ, 11725, .inr (.inl (fun j => i64 (σ 14 j)))))]
def wX (pv : Value) (ad : Nat → Nat) (cI cJ cZ : ClassId) (σ : xS) : va_W := [(ad 0, .inr (4, [.ref (ad 7), .ref (ad 5), .ref (ad 1), pv])), (ad 1, .inr (3, [.ref (ad 2), .int (i32 (σ 1 1)), .ref (ad 3), .ref (ad 4), .int (i32 (σ 1 4)), .int (i32 (σ 1 5)), .int (i32 (σ 1 6)), .int (i32 (σ 1 7))])), (ad 2, .inl (cI, 60, .inl (fun j => i32 (σ 2 j)))), (ad 3, .inl (cI, 100, .inl (fun j => i32 (σ 3 j)))), (ad 4, .inl (cI, 100, .inl (fun j => i32 (σ 4 j)))), (ad 5, .inr (1, [.ref (ad 6), .int (i32 (σ 5 1)), .int (i32 (σ 5 2))])), (ad 6, .inl (cI, 504, .inl (fun j => i32 (σ 6 j)))), (ad 7, .inr (0, [.ref (ad 8)])), (ad 8, .inl (cI, 63, .inl (fun j => i32 (σ 8 j))))]
def wXP (pv : Value) (ad : Nat → Nat) (cI cJ cZ : ClassId) (σ : xS) : va_W := [(ad 0, .inr (4, [.ref (ad 7), .ref (ad 5), .ref (ad 1), pv])), (ad 1, .inr (3, [.ref (ad 2), .int (i32 (σ 1 1)), .ref (ad 3), .ref (ad 4), .int (i32 (σ 1 4)), .int (i32 (σ 1 5)), .int (i32 (σ 1 6)), .int (i32 (σ 1 7))])), (ad 2, .inl (cI, 60, .inl (fun j => i32 (σ 2 j)))), (ad 3, .inl (cI, 100, .inl (fun j => i32 (σ 3 j)))), (ad 4, .inl (cI, 100, .inl (fun j => i32 (σ 4 j)))), (ad 5, .inr (1, [.ref (ad 6), .int (i32 (σ 5 1)), .int (i32 (σ 5 2))])), (ad 6, .inl (cI, 504, .inl (fun j => i32 (σ 6 j)))), (ad 7, .inr (0, [.ref (ad 8)])), (ad 8, .inl (cI, 63, .inl (fun j => i32 (σ 8 j)))), (ad 9, .inr (2, [.int (i32 (σ 9 0)), .int (i32 (σ 9 1)), .ref (ad 10), .int (i32 (σ 9 3)), .ref (ad 11), .ref (ad 12), .int (i32 (σ 9 6)), .ref (ad 13), .ref (ad 14), .int (i32 (σ 9 9)), .int (i32 (σ 9 10))])), (ad 10, .inl (cI, 8, .inl (fun j => i32 (σ 10 j)))), (ad 11, .inl (cI, 469, .inl (fun j => i32 (σ 11 j)))), (ad 12, .inl (cI, 4096, .inl (fun j => i32 (σ 12 j)))), (ad 13, .inl (cI, 3760, .inl (fun j => i32 (σ 13 j)))), (ad 14, .inl (cJ, 11725, .inr (.inl (fun j => i64 (σ 14 j)))))]
def wM (ad : Nat → Nat) (cI cJ cZ : ClassId) (σ : xS) : va_W := [(ad 20, .inr (5, [.ref (ad 21), .ref (ad 22), .ref (ad 23), .int (i32 (σ 20 3)), .ref (ad 24), .int (i32 (σ 20 5)), .ref (ad 25), .ref (ad 26), .int (i32 (σ 20 8)), .int (i32 (σ 20 9)), .int (i32 (σ 20 10)), .int (i32 (σ 20 11)), .ref (ad 27), .ref (ad 28), .ref (ad 29), .ref (ad 30), .int (i32 (σ 20 16)), .ref (ad 31), .ref (ad 32), .ref (ad 33), .int (i32 (σ 20 20)), .long (i64 (σ 20 21))])), (ad 21, .inl (cI, 64, .inl (fun j => i32 (σ 21 j)))), (ad 22, .inl (cI, 512, .inl (fun j => i32 (σ 22 j)))), (ad 23, .inl (cI, 64, .inl (fun j => i32 (σ 23 j)))), (ad 24, .inl (cI, 60, .inl (fun j => i32 (σ 24 j)))), (ad 25, .inl (cI, 60, .inl (fun j => i32 (σ 25 j)))), (ad 26, .inl (cI, 60, .inl (fun j => i32 (σ 26 j)))), (ad 27, .inl (cI, 2, .inl (fun j => i32 (σ 27 j)))), (ad 28, .inl (cI, 2, .inl (fun j => i32 (σ 28 j)))), (ad 29, .inl (cI, 90077, .inl (fun j => i32 (σ 29 j)))), (ad 30, .inl (cI, 9, .inl (fun j => i32 (σ 30 j)))), (ad 31, .inl (cI, 3, .inl (fun j => i32 (σ 31 j)))), (ad 32, .inl (cZ, 3, .inl (fun j => i32 (σ 32 j)))), (ad 33, .inl (cI, 3, .inl (fun j => i32 (σ 33 j))))]
def wF (ad : Nat → Nat) (cI cJ cZ : ClassId) (σ : xS) : va_W := [(ad 10, .inl (cI, 8, .inl (fun j => i32 (σ 10 j))))]
theorem wB_st8 {ad : Nat → Nat} {cI cJ cZ : ClassId} {σ : xS} {v : Int} : ∀ k, (wB ad cI cJ cZ σ).set 1 (ad 8, .inl (cI, 63, .inl (upd (fun j => i32 (σ 8 j)) k (i32 v)))) = wB ad cI cJ cZ (xup σ 8 k v) := fun k => by
  rw [xupd_i]
  rfl
theorem wRB_st6 {ad : Nat → Nat} {cI cJ cZ : ClassId} {σ : xS} {v : Int} : ∀ k, (wRB ad cI cJ cZ σ).set 0 (ad 6, .inl (cI, 504, .inl (upd (fun j => i32 (σ 6 j)) k (i32 v)))) = wRB ad cI cJ cZ (xup σ 6 k v) := fun k => by
  rw [xupd_i]
  rfl
theorem wRB_st8 {ad : Nat → Nat} {cI cJ cZ : ClassId} {σ : xS} {v : Int} : ∀ k, (wRB ad cI cJ cZ σ).set 2 (ad 8, .inl (cI, 63, .inl (upd (fun j => i32 (σ 8 j)) k (i32 v)))) = wRB ad cI cJ cZ (xup σ 8 k v) := fun k => by
  rw [xupd_i]
  rfl
theorem wHB_st6 {ad : Nat → Nat} {cI cJ cZ : ClassId} {σ : xS} {v : Int} : ∀ k, (wHB ad cI cJ cZ σ).set 1 (ad 6, .inl (cI, 504, .inl (upd (fun j => i32 (σ 6 j)) k (i32 v)))) = wHB ad cI cJ cZ (xup σ 6 k v) := fun k => by
  rw [xupd_i]
  rfl
theorem wHB_st8 {ad : Nat → Nat} {cI cJ cZ : ClassId} {σ : xS} {v : Int} : ∀ k, (wHB ad cI cJ cZ σ).set 3 (ad 8, .inl (cI, 63, .inl (upd (fun j => i32 (σ 8 j)) k (i32 v)))) = wHB ad cI cJ cZ (xup σ 8 k v) := fun k => by
  rw [xupd_i]
  rfl
theorem wS_st2 {ad : Nat → Nat} {cI cJ cZ : ClassId} {σ : xS} {v : Int} : ∀ k, (wS ad cI cJ cZ σ).set 1 (ad 2, .inl (cI, 60, .inl (upd (fun j => i32 (σ 2 j)) k (i32 v)))) = wS ad cI cJ cZ (xup σ 2 k v) := fun k => by
  rw [xupd_i]
  rfl
theorem wS_st3 {ad : Nat → Nat} {cI cJ cZ : ClassId} {σ : xS} {v : Int} : ∀ k, (wS ad cI cJ cZ σ).set 2 (ad 3, .inl (cI, 100, .inl (upd (fun j => i32 (σ 3 j)) k (i32 v)))) = wS ad cI cJ cZ (xup σ 3 k v) := fun k => by
  rw [xupd_i]
  rfl
theorem wS_st4 {ad : Nat → Nat} {cI cJ cZ : ClassId} {σ : xS} {v : Int} : ∀ k, (wS ad cI cJ cZ σ).set 3 (ad 4, .inl (cI, 100, .inl (upd (fun j => i32 (σ 4 j)) k (i32 v)))) = wS ad cI cJ cZ (xup σ 4 k v) := fun k => by
  rw [xupd_i]
  rfl
theorem wP_st10 {ad : Nat → Nat} {cI cJ cZ : ClassId} {σ : xS} {v : Int} : ∀ k, (wP ad cI cJ cZ σ).set 1 (ad 10, .inl (cI, 8, .inl (upd (fun j => i32 (σ 10 j)) k (i32 v)))) = wP ad cI cJ cZ (xup σ 10 k v) := fun k => by
  rw [xupd_i]
  rfl
theorem wP_st11 {ad : Nat → Nat} {cI cJ cZ : ClassId} {σ : xS} {v : Int} : ∀ k, (wP ad cI cJ cZ σ).set 2 (ad 11, .inl (cI, 469, .inl (upd (fun j => i32 (σ 11 j)) k (i32 v)))) = wP ad cI cJ cZ (xup σ 11 k v) := fun k => by
  rw [xupd_i]
  rfl
theorem wP_st12 {ad : Nat → Nat} {cI cJ cZ : ClassId} {σ : xS} {v : Int} : ∀ k, (wP ad cI cJ cZ σ).set 3 (ad 12, .inl (cI, 4096, .inl (upd (fun j => i32 (σ 12 j)) k (i32 v)))) = wP ad cI cJ cZ (xup σ 12 k v) := fun k => by
  rw [xupd_i]
  rfl
theorem wP_st13 {ad : Nat → Nat} {cI cJ cZ : ClassId} {σ : xS} {v : Int} : ∀ k, (wP ad cI cJ cZ σ).set 4 (ad 13, .inl (cI, 3760, .inl (upd (fun j => i32 (σ 13 j)) k (i32 v)))) = wP ad cI cJ cZ (xup σ 13 k v) := fun k => by
  rw [xupd_i]
  rfl
theorem wP_st14 {ad : Nat → Nat} {cI cJ cZ : ClassId} {σ : xS} {v : Int} : ∀ k, (wP ad cI cJ cZ σ).set 5 (ad 14, .inl (cJ, 11725, .inr (.inl (vp_updL (fun j => i64 (σ 14 j)) k (i64 v))))) = wP ad cI cJ cZ (xup σ 14 k v) := fun k => by
  rw [xupd_l]
  rfl
theorem wBP_st8 {ad : Nat → Nat} {cI cJ cZ : ClassId} {σ : xS} {v : Int} : ∀ k, (wBP ad cI cJ cZ σ).set 1 (ad 8, .inl (cI, 63, .inl (upd (fun j => i32 (σ 8 j)) k (i32 v)))) = wBP ad cI cJ cZ (xup σ 8 k v) := fun k => by
  rw [xupd_i]
  rfl
theorem wBP_st10 {ad : Nat → Nat} {cI cJ cZ : ClassId} {σ : xS} {v : Int} : ∀ k, (wBP ad cI cJ cZ σ).set 3 (ad 10, .inl (cI, 8, .inl (upd (fun j => i32 (σ 10 j)) k (i32 v)))) = wBP ad cI cJ cZ (xup σ 10 k v) := fun k => by
  rw [xupd_i]
  rfl
theorem wBP_st11 {ad : Nat → Nat} {cI cJ cZ : ClassId} {σ : xS} {v : Int} : ∀ k, (wBP ad cI cJ cZ σ).set 4 (ad 11, .inl (cI, 469, .inl (upd (fun j => i32 (σ 11 j)) k (i32 v)))) = wBP ad cI cJ cZ (xup σ 11 k v) := fun k => by
  rw [xupd_i]
  rfl
theorem wBP_st12 {ad : Nat → Nat} {cI cJ cZ : ClassId} {σ : xS} {v : Int} : ∀ k, (wBP ad cI cJ cZ σ).set 5 (ad 12, .inl (cI, 4096, .inl (upd (fun j => i32 (σ 12 j)) k (i32 v)))) = wBP ad cI cJ cZ (xup σ 12 k v) := fun k => by
  rw [xupd_i]
  rfl
theorem wBP_st13 {ad : Nat → Nat} {cI cJ cZ : ClassId} {σ : xS} {v : Int} : ∀ k, (wBP ad cI cJ cZ σ).set 6 (ad 13, .inl (cI, 3760, .inl (upd (fun j => i32 (σ 13 j)) k (i32 v)))) = wBP ad cI cJ cZ (xup σ 13 k v) := fun k => by
  rw [xupd_i]
  rfl
theorem wBP_st14 {ad : Nat → Nat} {cI cJ cZ : ClassId} {σ : xS} {v : Int} : ∀ k, (wBP ad cI cJ cZ σ).set 7 (ad 14, .inl (cJ, 11725, .inr (.inl (vp_updL (fun j => i64 (σ 14 j)) k (i64 v))))) = wBP ad cI cJ cZ (xup σ 14 k v) := fun k => by
  rw [xupd_l]
  rfl
theorem wX_st2 {pv : Value} {ad : Nat → Nat} {cI cJ cZ : ClassId} {σ : xS} {v : Int} : ∀ k, (wX pv ad cI cJ cZ σ).set 2 (ad 2, .inl (cI, 60, .inl (upd (fun j => i32 (σ 2 j)) k (i32 v)))) = wX pv ad cI cJ cZ (xup σ 2 k v) := fun k => by
  rw [xupd_i]
  rfl
theorem wX_st3 {pv : Value} {ad : Nat → Nat} {cI cJ cZ : ClassId} {σ : xS} {v : Int} : ∀ k, (wX pv ad cI cJ cZ σ).set 3 (ad 3, .inl (cI, 100, .inl (upd (fun j => i32 (σ 3 j)) k (i32 v)))) = wX pv ad cI cJ cZ (xup σ 3 k v) := fun k => by
  rw [xupd_i]
  rfl
theorem wX_st4 {pv : Value} {ad : Nat → Nat} {cI cJ cZ : ClassId} {σ : xS} {v : Int} : ∀ k, (wX pv ad cI cJ cZ σ).set 4 (ad 4, .inl (cI, 100, .inl (upd (fun j => i32 (σ 4 j)) k (i32 v)))) = wX pv ad cI cJ cZ (xup σ 4 k v) := fun k => by
  rw [xupd_i]
  rfl
theorem wX_st6 {pv : Value} {ad : Nat → Nat} {cI cJ cZ : ClassId} {σ : xS} {v : Int} : ∀ k, (wX pv ad cI cJ cZ σ).set 6 (ad 6, .inl (cI, 504, .inl (upd (fun j => i32 (σ 6 j)) k (i32 v)))) = wX pv ad cI cJ cZ (xup σ 6 k v) := fun k => by
  rw [xupd_i]
  rfl
theorem wX_st8 {pv : Value} {ad : Nat → Nat} {cI cJ cZ : ClassId} {σ : xS} {v : Int} : ∀ k, (wX pv ad cI cJ cZ σ).set 8 (ad 8, .inl (cI, 63, .inl (upd (fun j => i32 (σ 8 j)) k (i32 v)))) = wX pv ad cI cJ cZ (xup σ 8 k v) := fun k => by
  rw [xupd_i]
  rfl
theorem wXP_st2 {pv : Value} {ad : Nat → Nat} {cI cJ cZ : ClassId} {σ : xS} {v : Int} : ∀ k, (wXP pv ad cI cJ cZ σ).set 2 (ad 2, .inl (cI, 60, .inl (upd (fun j => i32 (σ 2 j)) k (i32 v)))) = wXP pv ad cI cJ cZ (xup σ 2 k v) := fun k => by
  rw [xupd_i]
  rfl
theorem wXP_st3 {pv : Value} {ad : Nat → Nat} {cI cJ cZ : ClassId} {σ : xS} {v : Int} : ∀ k, (wXP pv ad cI cJ cZ σ).set 3 (ad 3, .inl (cI, 100, .inl (upd (fun j => i32 (σ 3 j)) k (i32 v)))) = wXP pv ad cI cJ cZ (xup σ 3 k v) := fun k => by
  rw [xupd_i]
  rfl
theorem wXP_st4 {pv : Value} {ad : Nat → Nat} {cI cJ cZ : ClassId} {σ : xS} {v : Int} : ∀ k, (wXP pv ad cI cJ cZ σ).set 4 (ad 4, .inl (cI, 100, .inl (upd (fun j => i32 (σ 4 j)) k (i32 v)))) = wXP pv ad cI cJ cZ (xup σ 4 k v) := fun k => by
  rw [xupd_i]
  rfl
theorem wXP_st6 {pv : Value} {ad : Nat → Nat} {cI cJ cZ : ClassId} {σ : xS} {v : Int} : ∀ k, (wXP pv ad cI cJ cZ σ).set 6 (ad 6, .inl (cI, 504, .inl (upd (fun j => i32 (σ 6 j)) k (i32 v)))) = wXP pv ad cI cJ cZ (xup σ 6 k v) := fun k => by
  rw [xupd_i]
  rfl
theorem wXP_st8 {pv : Value} {ad : Nat → Nat} {cI cJ cZ : ClassId} {σ : xS} {v : Int} : ∀ k, (wXP pv ad cI cJ cZ σ).set 8 (ad 8, .inl (cI, 63, .inl (upd (fun j => i32 (σ 8 j)) k (i32 v)))) = wXP pv ad cI cJ cZ (xup σ 8 k v) := fun k => by
  rw [xupd_i]
  rfl
theorem wXP_st10 {pv : Value} {ad : Nat → Nat} {cI cJ cZ : ClassId} {σ : xS} {v : Int} : ∀ k, (wXP pv ad cI cJ cZ σ).set 10 (ad 10, .inl (cI, 8, .inl (upd (fun j => i32 (σ 10 j)) k (i32 v)))) = wXP pv ad cI cJ cZ (xup σ 10 k v) := fun k => by
  rw [xupd_i]
  rfl
theorem wXP_st11 {pv : Value} {ad : Nat → Nat} {cI cJ cZ : ClassId} {σ : xS} {v : Int} : ∀ k, (wXP pv ad cI cJ cZ σ).set 11 (ad 11, .inl (cI, 469, .inl (upd (fun j => i32 (σ 11 j)) k (i32 v)))) = wXP pv ad cI cJ cZ (xup σ 11 k v) := fun k => by
  rw [xupd_i]
  rfl
theorem wXP_st12 {pv : Value} {ad : Nat → Nat} {cI cJ cZ : ClassId} {σ : xS} {v : Int} : ∀ k, (wXP pv ad cI cJ cZ σ).set 12 (ad 12, .inl (cI, 4096, .inl (upd (fun j => i32 (σ 12 j)) k (i32 v)))) = wXP pv ad cI cJ cZ (xup σ 12 k v) := fun k => by
  rw [xupd_i]
  rfl
theorem wXP_st13 {pv : Value} {ad : Nat → Nat} {cI cJ cZ : ClassId} {σ : xS} {v : Int} : ∀ k, (wXP pv ad cI cJ cZ σ).set 13 (ad 13, .inl (cI, 3760, .inl (upd (fun j => i32 (σ 13 j)) k (i32 v)))) = wXP pv ad cI cJ cZ (xup σ 13 k v) := fun k => by
  rw [xupd_i]
  rfl
theorem wXP_st14 {pv : Value} {ad : Nat → Nat} {cI cJ cZ : ClassId} {σ : xS} {v : Int} : ∀ k, (wXP pv ad cI cJ cZ σ).set 14 (ad 14, .inl (cJ, 11725, .inr (.inl (vp_updL (fun j => i64 (σ 14 j)) k (i64 v))))) = wXP pv ad cI cJ cZ (xup σ 14 k v) := fun k => by
  rw [xupd_l]
  rfl
theorem wM_st21 {ad : Nat → Nat} {cI cJ cZ : ClassId} {σ : xS} {v : Int} : ∀ k, (wM ad cI cJ cZ σ).set 1 (ad 21, .inl (cI, 64, .inl (upd (fun j => i32 (σ 21 j)) k (i32 v)))) = wM ad cI cJ cZ (xup σ 21 k v) := fun k => by
  rw [xupd_i]
  rfl
theorem wM_st22 {ad : Nat → Nat} {cI cJ cZ : ClassId} {σ : xS} {v : Int} : ∀ k, (wM ad cI cJ cZ σ).set 2 (ad 22, .inl (cI, 512, .inl (upd (fun j => i32 (σ 22 j)) k (i32 v)))) = wM ad cI cJ cZ (xup σ 22 k v) := fun k => by
  rw [xupd_i]
  rfl
theorem wM_st23 {ad : Nat → Nat} {cI cJ cZ : ClassId} {σ : xS} {v : Int} : ∀ k, (wM ad cI cJ cZ σ).set 3 (ad 23, .inl (cI, 64, .inl (upd (fun j => i32 (σ 23 j)) k (i32 v)))) = wM ad cI cJ cZ (xup σ 23 k v) := fun k => by
  rw [xupd_i]
  rfl
theorem wM_st24 {ad : Nat → Nat} {cI cJ cZ : ClassId} {σ : xS} {v : Int} : ∀ k, (wM ad cI cJ cZ σ).set 4 (ad 24, .inl (cI, 60, .inl (upd (fun j => i32 (σ 24 j)) k (i32 v)))) = wM ad cI cJ cZ (xup σ 24 k v) := fun k => by
  rw [xupd_i]
  rfl
theorem wM_st25 {ad : Nat → Nat} {cI cJ cZ : ClassId} {σ : xS} {v : Int} : ∀ k, (wM ad cI cJ cZ σ).set 5 (ad 25, .inl (cI, 60, .inl (upd (fun j => i32 (σ 25 j)) k (i32 v)))) = wM ad cI cJ cZ (xup σ 25 k v) := fun k => by
  rw [xupd_i]
  rfl
theorem wM_st26 {ad : Nat → Nat} {cI cJ cZ : ClassId} {σ : xS} {v : Int} : ∀ k, (wM ad cI cJ cZ σ).set 6 (ad 26, .inl (cI, 60, .inl (upd (fun j => i32 (σ 26 j)) k (i32 v)))) = wM ad cI cJ cZ (xup σ 26 k v) := fun k => by
  rw [xupd_i]
  rfl
theorem wM_st27 {ad : Nat → Nat} {cI cJ cZ : ClassId} {σ : xS} {v : Int} : ∀ k, (wM ad cI cJ cZ σ).set 7 (ad 27, .inl (cI, 2, .inl (upd (fun j => i32 (σ 27 j)) k (i32 v)))) = wM ad cI cJ cZ (xup σ 27 k v) := fun k => by
  rw [xupd_i]
  rfl
theorem wM_st28 {ad : Nat → Nat} {cI cJ cZ : ClassId} {σ : xS} {v : Int} : ∀ k, (wM ad cI cJ cZ σ).set 8 (ad 28, .inl (cI, 2, .inl (upd (fun j => i32 (σ 28 j)) k (i32 v)))) = wM ad cI cJ cZ (xup σ 28 k v) := fun k => by
  rw [xupd_i]
  rfl
theorem wM_st29 {ad : Nat → Nat} {cI cJ cZ : ClassId} {σ : xS} {v : Int} : ∀ k, (wM ad cI cJ cZ σ).set 9 (ad 29, .inl (cI, 90077, .inl (upd (fun j => i32 (σ 29 j)) k (i32 v)))) = wM ad cI cJ cZ (xup σ 29 k v) := fun k => by
  rw [xupd_i]
  rfl
theorem wM_st30 {ad : Nat → Nat} {cI cJ cZ : ClassId} {σ : xS} {v : Int} : ∀ k, (wM ad cI cJ cZ σ).set 10 (ad 30, .inl (cI, 9, .inl (upd (fun j => i32 (σ 30 j)) k (i32 v)))) = wM ad cI cJ cZ (xup σ 30 k v) := fun k => by
  rw [xupd_i]
  rfl
theorem wM_st31 {ad : Nat → Nat} {cI cJ cZ : ClassId} {σ : xS} {v : Int} : ∀ k, (wM ad cI cJ cZ σ).set 11 (ad 31, .inl (cI, 3, .inl (upd (fun j => i32 (σ 31 j)) k (i32 v)))) = wM ad cI cJ cZ (xup σ 31 k v) := fun k => by
  rw [xupd_i]
  rfl
theorem wM_st32 {ad : Nat → Nat} {cI cJ cZ : ClassId} {σ : xS} {v : Int} : ∀ k, (wM ad cI cJ cZ σ).set 12 (ad 32, .inl (cZ, 3, .inl (upd (fun j => i32 (σ 32 j)) k (i32 v)))) = wM ad cI cJ cZ (xup σ 32 k v) := fun k => by
  rw [xupd_i]
  rfl
theorem wM_st33 {ad : Nat → Nat} {cI cJ cZ : ClassId} {σ : xS} {v : Int} : ∀ k, (wM ad cI cJ cZ σ).set 13 (ad 33, .inl (cI, 3, .inl (upd (fun j => i32 (σ 33 j)) k (i32 v)))) = wM ad cI cJ cZ (xup σ 33 k v) := fun k => by
  rw [xupd_i]
  rfl
theorem wF_st10 {ad : Nat → Nat} {cI cJ cZ : ClassId} {σ : xS} {v : Int} : ∀ k, (wF ad cI cJ cZ σ).set 0 (ad 10, .inl (cI, 8, .inl (upd (fun j => i32 (σ 10 j)) k (i32 v)))) = wF ad cI cJ cZ (xup σ 10 k v) := fun k => by
  rw [xupd_i]
  rfl
theorem xcpy_i (f g : Nat → Int) (sp dp n : Nat) : va_cpy (fun j => i32 (f j)) (fun j => i32 (g j)) sp dp n = fun j => i32 (va_cpy f g sp dp n j) := by
  funext j
  unfold va_cpy
  by_cases h : dp ≤ j ∧ j < dp + n <;> simp [h]
theorem wRB_cp6 {ad : Nat → Nat} {cI cJ cZ : ClassId} {σ : xS} {f : Nat → Int} : ∀ sp dp n, (wRB ad cI cJ cZ σ).set 0 (ad 6, .inl (cI, 504, .inl (va_cpy (fun j => i32 (f j)) (fun j => i32 (σ 6 j)) sp dp n))) = wRB ad cI cJ cZ (xset σ 6 (va_cpy f (σ 6) sp dp n)) := fun sp dp n => by
  rw [xcpy_i]
  rfl
theorem wRB_cp8 {ad : Nat → Nat} {cI cJ cZ : ClassId} {σ : xS} {f : Nat → Int} : ∀ sp dp n, (wRB ad cI cJ cZ σ).set 2 (ad 8, .inl (cI, 63, .inl (va_cpy (fun j => i32 (f j)) (fun j => i32 (σ 8 j)) sp dp n))) = wRB ad cI cJ cZ (xset σ 8 (va_cpy f (σ 8) sp dp n)) := fun sp dp n => by
  rw [xcpy_i]
  rfl
theorem sp_wHB_wRB (ad : Nat → Nat) (cI cJ cZ : ClassId) : xSp (wHB ad cI cJ cZ) (wRB ad cI cJ cZ) [6, 7, 8] := ⟨fun σ => [(ad 5, .inr (1, [.ref (ad 6), .int (i32 (σ 5 1)), .int (i32 (σ 5 2))]))], fun σ => [], fun _ => rfl, fun u u' h => by
  have h5 : u 5 = u' 5 := h 5 (by decide)
  refine ⟨?_, ?_⟩
  · simp only [h5]
  · rfl⟩
theorem sp_wX_wS (pv : Value) (ad : Nat → Nat) (cI cJ cZ : ClassId) : xSp (wX pv ad cI cJ cZ) (wS ad cI cJ cZ) [1, 2, 3, 4] := ⟨fun σ => [(ad 0, .inr (4, [.ref (ad 7), .ref (ad 5), .ref (ad 1), pv]))], fun σ => [(ad 5, .inr (1, [.ref (ad 6), .int (i32 (σ 5 1)), .int (i32 (σ 5 2))])), (ad 6, .inl (cI, 504, .inl (fun j => i32 (σ 6 j)))), (ad 7, .inr (0, [.ref (ad 8)])), (ad 8, .inl (cI, 63, .inl (fun j => i32 (σ 8 j))))], fun _ => rfl, fun u u' h => by
  have h0 : u 0 = u' 0 := h 0 (by decide)
  have h5 : u 5 = u' 5 := h 5 (by decide)
  have h6 : u 6 = u' 6 := h 6 (by decide)
  have h7 : u 7 = u' 7 := h 7 (by decide)
  have h8 : u 8 = u' 8 := h 8 (by decide)
  refine ⟨?_, ?_⟩
  · rfl
  · simp only [h5, h6, h8]⟩
theorem sp_wX_wHB (pv : Value) (ad : Nat → Nat) (cI cJ cZ : ClassId) : xSp (wX pv ad cI cJ cZ) (wHB ad cI cJ cZ) [5, 6, 7, 8] := ⟨fun σ => [(ad 0, .inr (4, [.ref (ad 7), .ref (ad 5), .ref (ad 1), pv])), (ad 1, .inr (3, [.ref (ad 2), .int (i32 (σ 1 1)), .ref (ad 3), .ref (ad 4), .int (i32 (σ 1 4)), .int (i32 (σ 1 5)), .int (i32 (σ 1 6)), .int (i32 (σ 1 7))])), (ad 2, .inl (cI, 60, .inl (fun j => i32 (σ 2 j)))), (ad 3, .inl (cI, 100, .inl (fun j => i32 (σ 3 j)))), (ad 4, .inl (cI, 100, .inl (fun j => i32 (σ 4 j))))], fun σ => [], fun _ => rfl, fun u u' h => by
  have h0 : u 0 = u' 0 := h 0 (by decide)
  have h1 : u 1 = u' 1 := h 1 (by decide)
  have h2 : u 2 = u' 2 := h 2 (by decide)
  have h3 : u 3 = u' 3 := h 3 (by decide)
  have h4 : u 4 = u' 4 := h 4 (by decide)
  refine ⟨?_, ?_⟩
  · simp only [h1, h2, h3, h4]
  · rfl⟩
theorem sp_wX_wB (pv : Value) (ad : Nat → Nat) (cI cJ cZ : ClassId) : xSp (wX pv ad cI cJ cZ) (wB ad cI cJ cZ) [7, 8] := ⟨fun σ => [(ad 0, .inr (4, [.ref (ad 7), .ref (ad 5), .ref (ad 1), pv])), (ad 1, .inr (3, [.ref (ad 2), .int (i32 (σ 1 1)), .ref (ad 3), .ref (ad 4), .int (i32 (σ 1 4)), .int (i32 (σ 1 5)), .int (i32 (σ 1 6)), .int (i32 (σ 1 7))])), (ad 2, .inl (cI, 60, .inl (fun j => i32 (σ 2 j)))), (ad 3, .inl (cI, 100, .inl (fun j => i32 (σ 3 j)))), (ad 4, .inl (cI, 100, .inl (fun j => i32 (σ 4 j)))), (ad 5, .inr (1, [.ref (ad 6), .int (i32 (σ 5 1)), .int (i32 (σ 5 2))])), (ad 6, .inl (cI, 504, .inl (fun j => i32 (σ 6 j))))], fun σ => [], fun _ => rfl, fun u u' h => by
  have h0 : u 0 = u' 0 := h 0 (by decide)
  have h1 : u 1 = u' 1 := h 1 (by decide)
  have h2 : u 2 = u' 2 := h 2 (by decide)
  have h3 : u 3 = u' 3 := h 3 (by decide)
  have h4 : u 4 = u' 4 := h 4 (by decide)
  have h5 : u 5 = u' 5 := h 5 (by decide)
  have h6 : u 6 = u' 6 := h 6 (by decide)
  refine ⟨?_, ?_⟩
  · simp only [h1, h2, h3, h4, h5, h6]
  · rfl⟩
theorem sp_wXP_wX (pv : Value) (ad : Nat → Nat) (cI cJ cZ : ClassId) : xSp (wXP pv ad cI cJ cZ) (wX pv ad cI cJ cZ) [0, 1, 2, 3, 4, 5, 6, 7, 8] := ⟨fun σ => [], fun σ => [(ad 9, .inr (2, [.int (i32 (σ 9 0)), .int (i32 (σ 9 1)), .ref (ad 10), .int (i32 (σ 9 3)), .ref (ad 11), .ref (ad 12), .int (i32 (σ 9 6)), .ref (ad 13), .ref (ad 14), .int (i32 (σ 9 9)), .int (i32 (σ 9 10))])), (ad 10, .inl (cI, 8, .inl (fun j => i32 (σ 10 j)))), (ad 11, .inl (cI, 469, .inl (fun j => i32 (σ 11 j)))), (ad 12, .inl (cI, 4096, .inl (fun j => i32 (σ 12 j)))), (ad 13, .inl (cI, 3760, .inl (fun j => i32 (σ 13 j)))), (ad 14, .inl (cJ, 11725, .inr (.inl (fun j => i64 (σ 14 j)))))], fun _ => rfl, fun u u' h => by
  have h9 : u 9 = u' 9 := h 9 (by decide)
  have h10 : u 10 = u' 10 := h 10 (by decide)
  have h11 : u 11 = u' 11 := h 11 (by decide)
  have h12 : u 12 = u' 12 := h 12 (by decide)
  have h13 : u 13 = u' 13 := h 13 (by decide)
  have h14 : u 14 = u' 14 := h 14 (by decide)
  refine ⟨?_, ?_⟩
  · rfl
  · simp only [h9, h10, h11, h12, h13, h14]⟩
theorem sp_wXP_wBP (pv : Value) (ad : Nat → Nat) (cI cJ cZ : ClassId) : xSp (wXP pv ad cI cJ cZ) (wBP ad cI cJ cZ) [7, 8, 9, 10, 11, 12, 13, 14] := ⟨fun σ => [(ad 0, .inr (4, [.ref (ad 7), .ref (ad 5), .ref (ad 1), pv])), (ad 1, .inr (3, [.ref (ad 2), .int (i32 (σ 1 1)), .ref (ad 3), .ref (ad 4), .int (i32 (σ 1 4)), .int (i32 (σ 1 5)), .int (i32 (σ 1 6)), .int (i32 (σ 1 7))])), (ad 2, .inl (cI, 60, .inl (fun j => i32 (σ 2 j)))), (ad 3, .inl (cI, 100, .inl (fun j => i32 (σ 3 j)))), (ad 4, .inl (cI, 100, .inl (fun j => i32 (σ 4 j)))), (ad 5, .inr (1, [.ref (ad 6), .int (i32 (σ 5 1)), .int (i32 (σ 5 2))])), (ad 6, .inl (cI, 504, .inl (fun j => i32 (σ 6 j))))], fun σ => [], fun _ => rfl, fun u u' h => by
  have h0 : u 0 = u' 0 := h 0 (by decide)
  have h1 : u 1 = u' 1 := h 1 (by decide)
  have h2 : u 2 = u' 2 := h 2 (by decide)
  have h3 : u 3 = u' 3 := h 3 (by decide)
  have h4 : u 4 = u' 4 := h 4 (by decide)
  have h5 : u 5 = u' 5 := h 5 (by decide)
  have h6 : u 6 = u' 6 := h 6 (by decide)
  refine ⟨?_, ?_⟩
  · simp only [h1, h2, h3, h4, h5, h6]
  · rfl⟩
theorem sp_wXP_wP (pv : Value) (ad : Nat → Nat) (cI cJ cZ : ClassId) : xSp (wXP pv ad cI cJ cZ) (wP ad cI cJ cZ) [9, 10, 11, 12, 13, 14] := ⟨fun σ => [(ad 0, .inr (4, [.ref (ad 7), .ref (ad 5), .ref (ad 1), pv])), (ad 1, .inr (3, [.ref (ad 2), .int (i32 (σ 1 1)), .ref (ad 3), .ref (ad 4), .int (i32 (σ 1 4)), .int (i32 (σ 1 5)), .int (i32 (σ 1 6)), .int (i32 (σ 1 7))])), (ad 2, .inl (cI, 60, .inl (fun j => i32 (σ 2 j)))), (ad 3, .inl (cI, 100, .inl (fun j => i32 (σ 3 j)))), (ad 4, .inl (cI, 100, .inl (fun j => i32 (σ 4 j)))), (ad 5, .inr (1, [.ref (ad 6), .int (i32 (σ 5 1)), .int (i32 (σ 5 2))])), (ad 6, .inl (cI, 504, .inl (fun j => i32 (σ 6 j)))), (ad 7, .inr (0, [.ref (ad 8)])), (ad 8, .inl (cI, 63, .inl (fun j => i32 (σ 8 j))))], fun σ => [], fun _ => rfl, fun u u' h => by
  have h0 : u 0 = u' 0 := h 0 (by decide)
  have h1 : u 1 = u' 1 := h 1 (by decide)
  have h2 : u 2 = u' 2 := h 2 (by decide)
  have h3 : u 3 = u' 3 := h 3 (by decide)
  have h4 : u 4 = u' 4 := h 4 (by decide)
  have h5 : u 5 = u' 5 := h 5 (by decide)
  have h6 : u 6 = u' 6 := h 6 (by decide)
  have h7 : u 7 = u' 7 := h 7 (by decide)
  have h8 : u 8 = u' 8 := h 8 (by decide)
  refine ⟨?_, ?_⟩
  · simp only [h1, h2, h3, h4, h5, h6, h8]
  · rfl⟩
theorem sp_wXP_wB (pv : Value) (ad : Nat → Nat) (cI cJ cZ : ClassId) : xSp (wXP pv ad cI cJ cZ) (wB ad cI cJ cZ) [7, 8] := ⟨fun σ => [(ad 0, .inr (4, [.ref (ad 7), .ref (ad 5), .ref (ad 1), pv])), (ad 1, .inr (3, [.ref (ad 2), .int (i32 (σ 1 1)), .ref (ad 3), .ref (ad 4), .int (i32 (σ 1 4)), .int (i32 (σ 1 5)), .int (i32 (σ 1 6)), .int (i32 (σ 1 7))])), (ad 2, .inl (cI, 60, .inl (fun j => i32 (σ 2 j)))), (ad 3, .inl (cI, 100, .inl (fun j => i32 (σ 3 j)))), (ad 4, .inl (cI, 100, .inl (fun j => i32 (σ 4 j)))), (ad 5, .inr (1, [.ref (ad 6), .int (i32 (σ 5 1)), .int (i32 (σ 5 2))])), (ad 6, .inl (cI, 504, .inl (fun j => i32 (σ 6 j))))], fun σ => [(ad 9, .inr (2, [.int (i32 (σ 9 0)), .int (i32 (σ 9 1)), .ref (ad 10), .int (i32 (σ 9 3)), .ref (ad 11), .ref (ad 12), .int (i32 (σ 9 6)), .ref (ad 13), .ref (ad 14), .int (i32 (σ 9 9)), .int (i32 (σ 9 10))])), (ad 10, .inl (cI, 8, .inl (fun j => i32 (σ 10 j)))), (ad 11, .inl (cI, 469, .inl (fun j => i32 (σ 11 j)))), (ad 12, .inl (cI, 4096, .inl (fun j => i32 (σ 12 j)))), (ad 13, .inl (cI, 3760, .inl (fun j => i32 (σ 13 j)))), (ad 14, .inl (cJ, 11725, .inr (.inl (fun j => i64 (σ 14 j)))))], fun _ => rfl, fun u u' h => by
  have h0 : u 0 = u' 0 := h 0 (by decide)
  have h1 : u 1 = u' 1 := h 1 (by decide)
  have h2 : u 2 = u' 2 := h 2 (by decide)
  have h3 : u 3 = u' 3 := h 3 (by decide)
  have h4 : u 4 = u' 4 := h 4 (by decide)
  have h5 : u 5 = u' 5 := h 5 (by decide)
  have h6 : u 6 = u' 6 := h 6 (by decide)
  have h9 : u 9 = u' 9 := h 9 (by decide)
  have h10 : u 10 = u' 10 := h 10 (by decide)
  have h11 : u 11 = u' 11 := h 11 (by decide)
  have h12 : u 12 = u' 12 := h 12 (by decide)
  have h13 : u 13 = u' 13 := h 13 (by decide)
  have h14 : u 14 = u' 14 := h 14 (by decide)
  refine ⟨?_, ?_⟩
  · simp only [h1, h2, h3, h4, h5, h6]
  · simp only [h9, h10, h11, h12, h13, h14]⟩
theorem sp_wXP_wS (pv : Value) (ad : Nat → Nat) (cI cJ cZ : ClassId) : xSp (wXP pv ad cI cJ cZ) (wS ad cI cJ cZ) [1, 2, 3, 4] := ⟨fun σ => [(ad 0, .inr (4, [.ref (ad 7), .ref (ad 5), .ref (ad 1), pv]))], fun σ => [(ad 5, .inr (1, [.ref (ad 6), .int (i32 (σ 5 1)), .int (i32 (σ 5 2))])), (ad 6, .inl (cI, 504, .inl (fun j => i32 (σ 6 j)))), (ad 7, .inr (0, [.ref (ad 8)])), (ad 8, .inl (cI, 63, .inl (fun j => i32 (σ 8 j)))), (ad 9, .inr (2, [.int (i32 (σ 9 0)), .int (i32 (σ 9 1)), .ref (ad 10), .int (i32 (σ 9 3)), .ref (ad 11), .ref (ad 12), .int (i32 (σ 9 6)), .ref (ad 13), .ref (ad 14), .int (i32 (σ 9 9)), .int (i32 (σ 9 10))])), (ad 10, .inl (cI, 8, .inl (fun j => i32 (σ 10 j)))), (ad 11, .inl (cI, 469, .inl (fun j => i32 (σ 11 j)))), (ad 12, .inl (cI, 4096, .inl (fun j => i32 (σ 12 j)))), (ad 13, .inl (cI, 3760, .inl (fun j => i32 (σ 13 j)))), (ad 14, .inl (cJ, 11725, .inr (.inl (fun j => i64 (σ 14 j)))))], fun _ => rfl, fun u u' h => by
  have h0 : u 0 = u' 0 := h 0 (by decide)
  have h5 : u 5 = u' 5 := h 5 (by decide)
  have h6 : u 6 = u' 6 := h 6 (by decide)
  have h7 : u 7 = u' 7 := h 7 (by decide)
  have h8 : u 8 = u' 8 := h 8 (by decide)
  have h9 : u 9 = u' 9 := h 9 (by decide)
  have h10 : u 10 = u' 10 := h 10 (by decide)
  have h11 : u 11 = u' 11 := h 11 (by decide)
  have h12 : u 12 = u' 12 := h 12 (by decide)
  have h13 : u 13 = u' 13 := h 13 (by decide)
  have h14 : u 14 = u' 14 := h 14 (by decide)
  refine ⟨?_, ?_⟩
  · rfl
  · simp only [h5, h6, h8, h9, h10, h11, h12, h13, h14]⟩
theorem sp_wBP_wB (ad : Nat → Nat) (cI cJ cZ : ClassId) : xSp (wBP ad cI cJ cZ) (wB ad cI cJ cZ) [7, 8] := ⟨fun σ => [], fun σ => [(ad 9, .inr (2, [.int (i32 (σ 9 0)), .int (i32 (σ 9 1)), .ref (ad 10), .int (i32 (σ 9 3)), .ref (ad 11), .ref (ad 12), .int (i32 (σ 9 6)), .ref (ad 13), .ref (ad 14), .int (i32 (σ 9 9)), .int (i32 (σ 9 10))])), (ad 10, .inl (cI, 8, .inl (fun j => i32 (σ 10 j)))), (ad 11, .inl (cI, 469, .inl (fun j => i32 (σ 11 j)))), (ad 12, .inl (cI, 4096, .inl (fun j => i32 (σ 12 j)))), (ad 13, .inl (cI, 3760, .inl (fun j => i32 (σ 13 j)))), (ad 14, .inl (cJ, 11725, .inr (.inl (fun j => i64 (σ 14 j)))))], fun _ => rfl, fun u u' h => by
  have h9 : u 9 = u' 9 := h 9 (by decide)
  have h10 : u 10 = u' 10 := h 10 (by decide)
  have h11 : u 11 = u' 11 := h 11 (by decide)
  have h12 : u 12 = u' 12 := h 12 (by decide)
  have h13 : u 13 = u' 13 := h 13 (by decide)
  have h14 : u 14 = u' 14 := h 14 (by decide)
  refine ⟨?_, ?_⟩
  · rfl
  · simp only [h9, h10, h11, h12, h13, h14]⟩
theorem sp_wBP_wP (ad : Nat → Nat) (cI cJ cZ : ClassId) : xSp (wBP ad cI cJ cZ) (wP ad cI cJ cZ) [9, 10, 11, 12, 13, 14] := ⟨fun σ => [(ad 7, .inr (0, [.ref (ad 8)])), (ad 8, .inl (cI, 63, .inl (fun j => i32 (σ 8 j))))], fun σ => [], fun _ => rfl, fun u u' h => by
  have h7 : u 7 = u' 7 := h 7 (by decide)
  have h8 : u 8 = u' 8 := h 8 (by decide)
  refine ⟨?_, ?_⟩
  · simp only [h8]
  · rfl⟩
theorem sp_wP_wF (ad : Nat → Nat) (cI cJ cZ : ClassId) : xSp (wP ad cI cJ cZ) (wF ad cI cJ cZ) [10] := ⟨fun σ => [(ad 9, .inr (2, [.int (i32 (σ 9 0)), .int (i32 (σ 9 1)), .ref (ad 10), .int (i32 (σ 9 3)), .ref (ad 11), .ref (ad 12), .int (i32 (σ 9 6)), .ref (ad 13), .ref (ad 14), .int (i32 (σ 9 9)), .int (i32 (σ 9 10))]))], fun σ => [(ad 11, .inl (cI, 469, .inl (fun j => i32 (σ 11 j)))), (ad 12, .inl (cI, 4096, .inl (fun j => i32 (σ 12 j)))), (ad 13, .inl (cI, 3760, .inl (fun j => i32 (σ 13 j)))), (ad 14, .inl (cJ, 11725, .inr (.inl (fun j => i64 (σ 14 j)))))], fun _ => rfl, fun u u' h => by
  have h9 : u 9 = u' 9 := h 9 (by decide)
  have h11 : u 11 = u' 11 := h 11 (by decide)
  have h12 : u 12 = u' 12 := h 12 (by decide)
  have h13 : u 13 = u' 13 := h 13 (by decide)
  have h14 : u 14 = u' 14 := h 14 (by decide)
  refine ⟨?_, ?_⟩
  · simp only [h9]
  · simp only [h11, h12, h13, h14]⟩
theorem sp_wBP_wF (ad : Nat → Nat) (cI cJ cZ : ClassId) : xSp (wBP ad cI cJ cZ) (wF ad cI cJ cZ) [10] := ⟨fun σ => [(ad 7, .inr (0, [.ref (ad 8)])), (ad 8, .inl (cI, 63, .inl (fun j => i32 (σ 8 j)))), (ad 9, .inr (2, [.int (i32 (σ 9 0)), .int (i32 (σ 9 1)), .ref (ad 10), .int (i32 (σ 9 3)), .ref (ad 11), .ref (ad 12), .int (i32 (σ 9 6)), .ref (ad 13), .ref (ad 14), .int (i32 (σ 9 9)), .int (i32 (σ 9 10))]))], fun σ => [(ad 11, .inl (cI, 469, .inl (fun j => i32 (σ 11 j)))), (ad 12, .inl (cI, 4096, .inl (fun j => i32 (σ 12 j)))), (ad 13, .inl (cI, 3760, .inl (fun j => i32 (σ 13 j)))), (ad 14, .inl (cJ, 11725, .inr (.inl (fun j => i64 (σ 14 j)))))], fun _ => rfl, fun u u' h => by
  have h7 : u 7 = u' 7 := h 7 (by decide)
  have h8 : u 8 = u' 8 := h 8 (by decide)
  have h9 : u 9 = u' 9 := h 9 (by decide)
  have h11 : u 11 = u' 11 := h 11 (by decide)
  have h12 : u 12 = u' 12 := h 12 (by decide)
  have h13 : u 13 = u' 13 := h 13 (by decide)
  have h14 : u 14 = u' 14 := h 14 (by decide)
  refine ⟨?_, ?_⟩
  · simp only [h8, h9]
  · simp only [h11, h12, h13, h14]⟩
theorem sp_wXP_wHB (pv : Value) (ad : Nat → Nat) (cI cJ cZ : ClassId) : xSp (wXP pv ad cI cJ cZ) (wHB ad cI cJ cZ) [5, 6, 7, 8] := ⟨fun σ => [(ad 0, .inr (4, [.ref (ad 7), .ref (ad 5), .ref (ad 1), pv])), (ad 1, .inr (3, [.ref (ad 2), .int (i32 (σ 1 1)), .ref (ad 3), .ref (ad 4), .int (i32 (σ 1 4)), .int (i32 (σ 1 5)), .int (i32 (σ 1 6)), .int (i32 (σ 1 7))])), (ad 2, .inl (cI, 60, .inl (fun j => i32 (σ 2 j)))), (ad 3, .inl (cI, 100, .inl (fun j => i32 (σ 3 j)))), (ad 4, .inl (cI, 100, .inl (fun j => i32 (σ 4 j))))], fun σ => [(ad 9, .inr (2, [.int (i32 (σ 9 0)), .int (i32 (σ 9 1)), .ref (ad 10), .int (i32 (σ 9 3)), .ref (ad 11), .ref (ad 12), .int (i32 (σ 9 6)), .ref (ad 13), .ref (ad 14), .int (i32 (σ 9 9)), .int (i32 (σ 9 10))])), (ad 10, .inl (cI, 8, .inl (fun j => i32 (σ 10 j)))), (ad 11, .inl (cI, 469, .inl (fun j => i32 (σ 11 j)))), (ad 12, .inl (cI, 4096, .inl (fun j => i32 (σ 12 j)))), (ad 13, .inl (cI, 3760, .inl (fun j => i32 (σ 13 j)))), (ad 14, .inl (cJ, 11725, .inr (.inl (fun j => i64 (σ 14 j)))))], fun _ => rfl, fun u u' h => by
  have h0 : u 0 = u' 0 := h 0 (by decide)
  have h1 : u 1 = u' 1 := h 1 (by decide)
  have h2 : u 2 = u' 2 := h 2 (by decide)
  have h3 : u 3 = u' 3 := h 3 (by decide)
  have h4 : u 4 = u' 4 := h 4 (by decide)
  have h9 : u 9 = u' 9 := h 9 (by decide)
  have h10 : u 10 = u' 10 := h 10 (by decide)
  have h11 : u 11 = u' 11 := h 11 (by decide)
  have h12 : u 12 = u' 12 := h 12 (by decide)
  have h13 : u 13 = u' 13 := h 13 (by decide)
  have h14 : u 14 = u' 14 := h 14 (by decide)
  refine ⟨?_, ?_⟩
  · simp only [h1, h2, h3, h4]
  · simp only [h9, h10, h11, h12, h13, h14]⟩
