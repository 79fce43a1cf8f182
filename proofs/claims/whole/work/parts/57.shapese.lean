/-! the bound, shape by shape: stacks (0, 0, 0) (printed by wip/whole/gen/bound.py) -/
noncomputable abbrev cke (a b c : Nat) : Bool := ckS 20 4194303 2097150 2097152 285 1 (f3 0 0 0) a b c
theorem bke_1_0 : allB (fun b => allB (fun c => cke 1 (b + 1) (c + 1)) 12) 3 = true := by decide +kernel
theorem bke_1_1 : allB (fun b => allB (fun c => cke 1 (b + 4) (c + 1)) 12) 3 = true := by decide +kernel
theorem bke_1_2 : allB (fun b => allB (fun c => cke 1 (b + 7) (c + 1)) 12) 3 = true := by decide +kernel
theorem bke_1_3 : allB (fun b => allB (fun c => cke 1 (b + 10) (c + 1)) 12) 3 = true := by decide +kernel
theorem bke_2_0 : allB (fun b => allB (fun c => cke 2 (b + 1) (c + 1)) 12) 3 = true := by decide +kernel
theorem bke_2_1 : allB (fun b => allB (fun c => cke 2 (b + 4) (c + 1)) 12) 3 = true := by decide +kernel
theorem bke_2_2 : allB (fun b => allB (fun c => cke 2 (b + 7) (c + 1)) 12) 3 = true := by decide +kernel
theorem bke_2_3 : allB (fun b => allB (fun c => cke 2 (b + 10) (c + 1)) 12) 3 = true := by decide +kernel
theorem bke_3_0 : allB (fun b => allB (fun c => cke 3 (b + 1) (c + 1)) 12) 3 = true := by decide +kernel
theorem bke_3_1 : allB (fun b => allB (fun c => cke 3 (b + 4) (c + 1)) 12) 3 = true := by decide +kernel
theorem bke_3_2 : allB (fun b => allB (fun c => cke 3 (b + 7) (c + 1)) 12) 3 = true := by decide +kernel
theorem bke_3_3 : allB (fun b => allB (fun c => cke 3 (b + 10) (c + 1)) 12) 3 = true := by decide +kernel
theorem bke_4_0 : allB (fun b => allB (fun c => cke 4 (b + 1) (c + 1)) 12) 3 = true := by decide +kernel
theorem bke_4_1 : allB (fun b => allB (fun c => cke 4 (b + 4) (c + 1)) 12) 3 = true := by decide +kernel
theorem bke_4_2 : allB (fun b => allB (fun c => cke 4 (b + 7) (c + 1)) 12) 3 = true := by decide +kernel
theorem bke_4_3 : allB (fun b => allB (fun c => cke 4 (b + 10) (c + 1)) 12) 3 = true := by decide +kernel
theorem bke_5_0 : allB (fun b => allB (fun c => cke 5 (b + 1) (c + 1)) 12) 3 = true := by decide +kernel
theorem bke_5_1 : allB (fun b => allB (fun c => cke 5 (b + 4) (c + 1)) 12) 3 = true := by decide +kernel
theorem bke_5_2 : allB (fun b => allB (fun c => cke 5 (b + 7) (c + 1)) 12) 3 = true := by decide +kernel
theorem bke_5_3 : allB (fun b => allB (fun c => cke 5 (b + 10) (c + 1)) 12) 3 = true := by decide +kernel
theorem bke_6_0 : allB (fun b => allB (fun c => cke 6 (b + 1) (c + 1)) 12) 3 = true := by decide +kernel
theorem bke_6_1 : allB (fun b => allB (fun c => cke 6 (b + 4) (c + 1)) 12) 3 = true := by decide +kernel
theorem bke_6_2 : allB (fun b => allB (fun c => cke 6 (b + 7) (c + 1)) 12) 3 = true := by decide +kernel
theorem bke_6_3 : allB (fun b => allB (fun c => cke 6 (b + 10) (c + 1)) 12) 3 = true := by decide +kernel
theorem bke_7_0 : allB (fun b => allB (fun c => cke 7 (b + 1) (c + 1)) 12) 3 = true := by decide +kernel
theorem bke_7_1 : allB (fun b => allB (fun c => cke 7 (b + 4) (c + 1)) 12) 3 = true := by decide +kernel
theorem bke_7_2 : allB (fun b => allB (fun c => cke 7 (b + 7) (c + 1)) 12) 3 = true := by decide +kernel
theorem bke_7_3 : allB (fun b => allB (fun c => cke 7 (b + 10) (c + 1)) 12) 3 = true := by decide +kernel
theorem bke_8_0 : allB (fun b => allB (fun c => cke 8 (b + 1) (c + 1)) 12) 3 = true := by decide +kernel
theorem bke_8_1 : allB (fun b => allB (fun c => cke 8 (b + 4) (c + 1)) 12) 3 = true := by decide +kernel
theorem bke_8_2 : allB (fun b => allB (fun c => cke 8 (b + 7) (c + 1)) 12) 3 = true := by decide +kernel
theorem bke_8_3 : allB (fun b => allB (fun c => cke 8 (b + 10) (c + 1)) 12) 3 = true := by decide +kernel
theorem bke_9_0 : allB (fun b => allB (fun c => cke 9 (b + 1) (c + 1)) 12) 3 = true := by decide +kernel
theorem bke_9_1 : allB (fun b => allB (fun c => cke 9 (b + 4) (c + 1)) 12) 3 = true := by decide +kernel
theorem bke_9_2 : allB (fun b => allB (fun c => cke 9 (b + 7) (c + 1)) 12) 3 = true := by decide +kernel
theorem bke_9_3 : allB (fun b => allB (fun c => cke 9 (b + 10) (c + 1)) 12) 3 = true := by decide +kernel
theorem bke_10_0 : allB (fun b => allB (fun c => cke 10 (b + 1) (c + 1)) 12) 3 = true := by decide +kernel
theorem bke_10_1 : allB (fun b => allB (fun c => cke 10 (b + 4) (c + 1)) 12) 3 = true := by decide +kernel
theorem bke_10_2 : allB (fun b => allB (fun c => cke 10 (b + 7) (c + 1)) 12) 3 = true := by decide +kernel
theorem bke_10_3 : allB (fun b => allB (fun c => cke 10 (b + 10) (c + 1)) 12) 3 = true := by decide +kernel
theorem bke_11_0 : allB (fun b => allB (fun c => cke 11 (b + 1) (c + 1)) 12) 3 = true := by decide +kernel
theorem bke_11_1 : allB (fun b => allB (fun c => cke 11 (b + 4) (c + 1)) 12) 3 = true := by decide +kernel
theorem bke_11_2 : allB (fun b => allB (fun c => cke 11 (b + 7) (c + 1)) 12) 3 = true := by decide +kernel
theorem bke_11_3 : allB (fun b => allB (fun c => cke 11 (b + 10) (c + 1)) 12) 3 = true := by decide +kernel
theorem bke_12_0 : allB (fun b => allB (fun c => cke 12 (b + 1) (c + 1)) 12) 3 = true := by decide +kernel
theorem bke_12_1 : allB (fun b => allB (fun c => cke 12 (b + 4) (c + 1)) 12) 3 = true := by decide +kernel
theorem bke_12_2 : allB (fun b => allB (fun c => cke 12 (b + 7) (c + 1)) 12) 3 = true := by decide +kernel
theorem bke_12_3 : allB (fun b => allB (fun c => cke 12 (b + 10) (c + 1)) 12) 3 = true := by decide +kernel
theorem bke {a b c : Nat} (ha : 1 ≤ a ∧ a ≤ 12) (hb : 1 ≤ b ∧ b ≤ 12) (hc : 1 ≤ c ∧ c ≤ 12) : cke a b c = true := by
  obtain ⟨c', rfl⟩ : ∃ c', c = c' + 1 := ⟨c - 1, by omega⟩
  have hq : ∃ q b', q < 4 ∧ b' < 3 ∧ b = b' + (3 * q + 1) := ⟨(b - 1) / 3, (b - 1) % 3, by omega, by omega, by omega⟩
  obtain ⟨q, b', hq, hb', rfl⟩ := hq
  have hc' : c' < 12 := by omega
  rcases (show a = 1 ∨ a = 2 ∨ a = 3 ∨ a = 4 ∨ a = 5 ∨ a = 6 ∨ a = 7 ∨ a = 8 ∨ a = 9 ∨ a = 10 ∨ a = 11 ∨ a = 12 by omega) with rfl | rfl | rfl | rfl | rfl | rfl | rfl | rfl | rfl | rfl | rfl | rfl <;> rcases (show q = 0 ∨ q = 1 ∨ q = 2 ∨ q = 3 by omega) with rfl | rfl | rfl | rfl
  · exact allB_t (allB_t bke_1_0 b' hb') c' hc'
  · exact allB_t (allB_t bke_1_1 b' hb') c' hc'
  · exact allB_t (allB_t bke_1_2 b' hb') c' hc'
  · exact allB_t (allB_t bke_1_3 b' hb') c' hc'
  · exact allB_t (allB_t bke_2_0 b' hb') c' hc'
  · exact allB_t (allB_t bke_2_1 b' hb') c' hc'
  · exact allB_t (allB_t bke_2_2 b' hb') c' hc'
  · exact allB_t (allB_t bke_2_3 b' hb') c' hc'
  · exact allB_t (allB_t bke_3_0 b' hb') c' hc'
  · exact allB_t (allB_t bke_3_1 b' hb') c' hc'
  · exact allB_t (allB_t bke_3_2 b' hb') c' hc'
  · exact allB_t (allB_t bke_3_3 b' hb') c' hc'
  · exact allB_t (allB_t bke_4_0 b' hb') c' hc'
  · exact allB_t (allB_t bke_4_1 b' hb') c' hc'
  · exact allB_t (allB_t bke_4_2 b' hb') c' hc'
  · exact allB_t (allB_t bke_4_3 b' hb') c' hc'
  · exact allB_t (allB_t bke_5_0 b' hb') c' hc'
  · exact allB_t (allB_t bke_5_1 b' hb') c' hc'
  · exact allB_t (allB_t bke_5_2 b' hb') c' hc'
  · exact allB_t (allB_t bke_5_3 b' hb') c' hc'
  · exact allB_t (allB_t bke_6_0 b' hb') c' hc'
  · exact allB_t (allB_t bke_6_1 b' hb') c' hc'
  · exact allB_t (allB_t bke_6_2 b' hb') c' hc'
  · exact allB_t (allB_t bke_6_3 b' hb') c' hc'
  · exact allB_t (allB_t bke_7_0 b' hb') c' hc'
  · exact allB_t (allB_t bke_7_1 b' hb') c' hc'
  · exact allB_t (allB_t bke_7_2 b' hb') c' hc'
  · exact allB_t (allB_t bke_7_3 b' hb') c' hc'
  · exact allB_t (allB_t bke_8_0 b' hb') c' hc'
  · exact allB_t (allB_t bke_8_1 b' hb') c' hc'
  · exact allB_t (allB_t bke_8_2 b' hb') c' hc'
  · exact allB_t (allB_t bke_8_3 b' hb') c' hc'
  · exact allB_t (allB_t bke_9_0 b' hb') c' hc'
  · exact allB_t (allB_t bke_9_1 b' hb') c' hc'
  · exact allB_t (allB_t bke_9_2 b' hb') c' hc'
  · exact allB_t (allB_t bke_9_3 b' hb') c' hc'
  · exact allB_t (allB_t bke_10_0 b' hb') c' hc'
  · exact allB_t (allB_t bke_10_1 b' hb') c' hc'
  · exact allB_t (allB_t bke_10_2 b' hb') c' hc'
  · exact allB_t (allB_t bke_10_3 b' hb') c' hc'
  · exact allB_t (allB_t bke_11_0 b' hb') c' hc'
  · exact allB_t (allB_t bke_11_1 b' hb') c' hc'
  · exact allB_t (allB_t bke_11_2 b' hb') c' hc'
  · exact allB_t (allB_t bke_11_3 b' hb') c' hc'
  · exact allB_t (allB_t bke_12_0 b' hb') c' hc'
  · exact allB_t (allB_t bke_12_1 b' hb') c' hc'
  · exact allB_t (allB_t bke_12_2 b' hb') c' hc'
  · exact allB_t (allB_t bke_12_3 b' hb') c' hc'
