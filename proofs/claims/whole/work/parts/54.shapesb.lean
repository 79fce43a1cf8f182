/-! the bound, shape by shape: stacks (0, 0, 2) (printed by wip/whole/gen/bound.py) -/
noncomputable abbrev ckb (a b c : Nat) : Bool := ckS 22 16777215 8388606 8388608 144 5 (f3 0 0 2) a b c
theorem bkb_1_0 : allB (fun b => allB (fun c => ckb 1 (b + 1) (c + 1)) 12) 3 = true := by decide +kernel
theorem bkb_1_1 : allB (fun b => allB (fun c => ckb 1 (b + 4) (c + 1)) 12) 3 = true := by decide +kernel
theorem bkb_1_2 : allB (fun b => allB (fun c => ckb 1 (b + 7) (c + 1)) 12) 3 = true := by decide +kernel
theorem bkb_1_3 : allB (fun b => allB (fun c => ckb 1 (b + 10) (c + 1)) 12) 3 = true := by decide +kernel
theorem bkb_2_0 : allB (fun b => allB (fun c => ckb 2 (b + 1) (c + 1)) 12) 3 = true := by decide +kernel
theorem bkb_2_1 : allB (fun b => allB (fun c => ckb 2 (b + 4) (c + 1)) 12) 3 = true := by decide +kernel
theorem bkb_2_2 : allB (fun b => allB (fun c => ckb 2 (b + 7) (c + 1)) 12) 3 = true := by decide +kernel
theorem bkb_2_3 : allB (fun b => allB (fun c => ckb 2 (b + 10) (c + 1)) 12) 3 = true := by decide +kernel
theorem bkb_3_0 : allB (fun b => allB (fun c => ckb 3 (b + 1) (c + 1)) 12) 3 = true := by decide +kernel
theorem bkb_3_1 : allB (fun b => allB (fun c => ckb 3 (b + 4) (c + 1)) 12) 3 = true := by decide +kernel
theorem bkb_3_2 : allB (fun b => allB (fun c => ckb 3 (b + 7) (c + 1)) 12) 3 = true := by decide +kernel
theorem bkb_3_3 : allB (fun b => allB (fun c => ckb 3 (b + 10) (c + 1)) 12) 3 = true := by decide +kernel
theorem bkb_4_0 : allB (fun b => allB (fun c => ckb 4 (b + 1) (c + 1)) 12) 3 = true := by decide +kernel
theorem bkb_4_1 : allB (fun b => allB (fun c => ckb 4 (b + 4) (c + 1)) 12) 3 = true := by decide +kernel
theorem bkb_4_2 : allB (fun b => allB (fun c => ckb 4 (b + 7) (c + 1)) 12) 3 = true := by decide +kernel
theorem bkb_4_3 : allB (fun b => allB (fun c => ckb 4 (b + 10) (c + 1)) 12) 3 = true := by decide +kernel
theorem bkb_5_0 : allB (fun b => allB (fun c => ckb 5 (b + 1) (c + 1)) 12) 3 = true := by decide +kernel
theorem bkb_5_1 : allB (fun b => allB (fun c => ckb 5 (b + 4) (c + 1)) 12) 3 = true := by decide +kernel
theorem bkb_5_2 : allB (fun b => allB (fun c => ckb 5 (b + 7) (c + 1)) 12) 3 = true := by decide +kernel
theorem bkb_5_3 : allB (fun b => allB (fun c => ckb 5 (b + 10) (c + 1)) 12) 3 = true := by decide +kernel
theorem bkb_6_0 : allB (fun b => allB (fun c => ckb 6 (b + 1) (c + 1)) 12) 3 = true := by decide +kernel
theorem bkb_6_1 : allB (fun b => allB (fun c => ckb 6 (b + 4) (c + 1)) 12) 3 = true := by decide +kernel
theorem bkb_6_2 : allB (fun b => allB (fun c => ckb 6 (b + 7) (c + 1)) 12) 3 = true := by decide +kernel
theorem bkb_6_3 : allB (fun b => allB (fun c => ckb 6 (b + 10) (c + 1)) 12) 3 = true := by decide +kernel
theorem bkb_7_0 : allB (fun b => allB (fun c => ckb 7 (b + 1) (c + 1)) 12) 3 = true := by decide +kernel
theorem bkb_7_1 : allB (fun b => allB (fun c => ckb 7 (b + 4) (c + 1)) 12) 3 = true := by decide +kernel
theorem bkb_7_2 : allB (fun b => allB (fun c => ckb 7 (b + 7) (c + 1)) 12) 3 = true := by decide +kernel
theorem bkb_7_3 : allB (fun b => allB (fun c => ckb 7 (b + 10) (c + 1)) 12) 3 = true := by decide +kernel
theorem bkb_8_0 : allB (fun b => allB (fun c => ckb 8 (b + 1) (c + 1)) 12) 3 = true := by decide +kernel
theorem bkb_8_1 : allB (fun b => allB (fun c => ckb 8 (b + 4) (c + 1)) 12) 3 = true := by decide +kernel
theorem bkb_8_2 : allB (fun b => allB (fun c => ckb 8 (b + 7) (c + 1)) 12) 3 = true := by decide +kernel
theorem bkb_8_3 : allB (fun b => allB (fun c => ckb 8 (b + 10) (c + 1)) 12) 3 = true := by decide +kernel
theorem bkb_9_0 : allB (fun b => allB (fun c => ckb 9 (b + 1) (c + 1)) 12) 3 = true := by decide +kernel
theorem bkb_9_1 : allB (fun b => allB (fun c => ckb 9 (b + 4) (c + 1)) 12) 3 = true := by decide +kernel
theorem bkb_9_2 : allB (fun b => allB (fun c => ckb 9 (b + 7) (c + 1)) 12) 3 = true := by decide +kernel
theorem bkb_9_3 : allB (fun b => allB (fun c => ckb 9 (b + 10) (c + 1)) 12) 3 = true := by decide +kernel
theorem bkb_10_0 : allB (fun b => allB (fun c => ckb 10 (b + 1) (c + 1)) 12) 3 = true := by decide +kernel
theorem bkb_10_1 : allB (fun b => allB (fun c => ckb 10 (b + 4) (c + 1)) 12) 3 = true := by decide +kernel
theorem bkb_10_2 : allB (fun b => allB (fun c => ckb 10 (b + 7) (c + 1)) 12) 3 = true := by decide +kernel
theorem bkb_10_3 : allB (fun b => allB (fun c => ckb 10 (b + 10) (c + 1)) 12) 3 = true := by decide +kernel
theorem bkb_11_0 : allB (fun b => allB (fun c => ckb 11 (b + 1) (c + 1)) 12) 3 = true := by decide +kernel
theorem bkb_11_1 : allB (fun b => allB (fun c => ckb 11 (b + 4) (c + 1)) 12) 3 = true := by decide +kernel
theorem bkb_11_2 : allB (fun b => allB (fun c => ckb 11 (b + 7) (c + 1)) 12) 3 = true := by decide +kernel
theorem bkb_11_3 : allB (fun b => allB (fun c => ckb 11 (b + 10) (c + 1)) 12) 3 = true := by decide +kernel
theorem bkb_12_0 : allB (fun b => allB (fun c => ckb 12 (b + 1) (c + 1)) 12) 3 = true := by decide +kernel
theorem bkb_12_1 : allB (fun b => allB (fun c => ckb 12 (b + 4) (c + 1)) 12) 3 = true := by decide +kernel
theorem bkb_12_2 : allB (fun b => allB (fun c => ckb 12 (b + 7) (c + 1)) 12) 3 = true := by decide +kernel
theorem bkb_12_3 : allB (fun b => allB (fun c => ckb 12 (b + 10) (c + 1)) 12) 3 = true := by decide +kernel
theorem bkb {a b c : Nat} (ha : 1 ≤ a ∧ a ≤ 12) (hb : 1 ≤ b ∧ b ≤ 12) (hc : 1 ≤ c ∧ c ≤ 12) : ckb a b c = true := by
  obtain ⟨c', rfl⟩ : ∃ c', c = c' + 1 := ⟨c - 1, by omega⟩
  have hq : ∃ q b', q < 4 ∧ b' < 3 ∧ b = b' + (3 * q + 1) := ⟨(b - 1) / 3, (b - 1) % 3, by omega, by omega, by omega⟩
  obtain ⟨q, b', hq, hb', rfl⟩ := hq
  have hc' : c' < 12 := by omega
  rcases (show a = 1 ∨ a = 2 ∨ a = 3 ∨ a = 4 ∨ a = 5 ∨ a = 6 ∨ a = 7 ∨ a = 8 ∨ a = 9 ∨ a = 10 ∨ a = 11 ∨ a = 12 by omega) with rfl | rfl | rfl | rfl | rfl | rfl | rfl | rfl | rfl | rfl | rfl | rfl <;> rcases (show q = 0 ∨ q = 1 ∨ q = 2 ∨ q = 3 by omega) with rfl | rfl | rfl | rfl
  · exact allB_t (allB_t bkb_1_0 b' hb') c' hc'
  · exact allB_t (allB_t bkb_1_1 b' hb') c' hc'
  · exact allB_t (allB_t bkb_1_2 b' hb') c' hc'
  · exact allB_t (allB_t bkb_1_3 b' hb') c' hc'
  · exact allB_t (allB_t bkb_2_0 b' hb') c' hc'
  · exact allB_t (allB_t bkb_2_1 b' hb') c' hc'
  · exact allB_t (allB_t bkb_2_2 b' hb') c' hc'
  · exact allB_t (allB_t bkb_2_3 b' hb') c' hc'
  · exact allB_t (allB_t bkb_3_0 b' hb') c' hc'
  · exact allB_t (allB_t bkb_3_1 b' hb') c' hc'
  · exact allB_t (allB_t bkb_3_2 b' hb') c' hc'
  · exact allB_t (allB_t bkb_3_3 b' hb') c' hc'
  · exact allB_t (allB_t bkb_4_0 b' hb') c' hc'
  · exact allB_t (allB_t bkb_4_1 b' hb') c' hc'
  · exact allB_t (allB_t bkb_4_2 b' hb') c' hc'
  · exact allB_t (allB_t bkb_4_3 b' hb') c' hc'
  · exact allB_t (allB_t bkb_5_0 b' hb') c' hc'
  · exact allB_t (allB_t bkb_5_1 b' hb') c' hc'
  · exact allB_t (allB_t bkb_5_2 b' hb') c' hc'
  · exact allB_t (allB_t bkb_5_3 b' hb') c' hc'
  · exact allB_t (allB_t bkb_6_0 b' hb') c' hc'
  · exact allB_t (allB_t bkb_6_1 b' hb') c' hc'
  · exact allB_t (allB_t bkb_6_2 b' hb') c' hc'
  · exact allB_t (allB_t bkb_6_3 b' hb') c' hc'
  · exact allB_t (allB_t bkb_7_0 b' hb') c' hc'
  · exact allB_t (allB_t bkb_7_1 b' hb') c' hc'
  · exact allB_t (allB_t bkb_7_2 b' hb') c' hc'
  · exact allB_t (allB_t bkb_7_3 b' hb') c' hc'
  · exact allB_t (allB_t bkb_8_0 b' hb') c' hc'
  · exact allB_t (allB_t bkb_8_1 b' hb') c' hc'
  · exact allB_t (allB_t bkb_8_2 b' hb') c' hc'
  · exact allB_t (allB_t bkb_8_3 b' hb') c' hc'
  · exact allB_t (allB_t bkb_9_0 b' hb') c' hc'
  · exact allB_t (allB_t bkb_9_1 b' hb') c' hc'
  · exact allB_t (allB_t bkb_9_2 b' hb') c' hc'
  · exact allB_t (allB_t bkb_9_3 b' hb') c' hc'
  · exact allB_t (allB_t bkb_10_0 b' hb') c' hc'
  · exact allB_t (allB_t bkb_10_1 b' hb') c' hc'
  · exact allB_t (allB_t bkb_10_2 b' hb') c' hc'
  · exact allB_t (allB_t bkb_10_3 b' hb') c' hc'
  · exact allB_t (allB_t bkb_11_0 b' hb') c' hc'
  · exact allB_t (allB_t bkb_11_1 b' hb') c' hc'
  · exact allB_t (allB_t bkb_11_2 b' hb') c' hc'
  · exact allB_t (allB_t bkb_11_3 b' hb') c' hc'
  · exact allB_t (allB_t bkb_12_0 b' hb') c' hc'
  · exact allB_t (allB_t bkb_12_1 b' hb') c' hc'
  · exact allB_t (allB_t bkb_12_2 b' hb') c' hc'
  · exact allB_t (allB_t bkb_12_3 b' hb') c' hc'
