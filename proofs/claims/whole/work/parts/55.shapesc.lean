/-! the bound, shape by shape: stacks (0, 1, 0) (printed by wip/whole/gen/bound.py) -/
noncomputable abbrev ckc (a b c : Nat) : Bool := ckS 22 16777215 8388606 8388608 144 3 (f3 0 1 0) a b c
theorem bkc_1_0 : allB (fun b => allB (fun c => ckc 1 (b + 1) (c + 1)) 12) 3 = true := by decide +kernel
theorem bkc_1_1 : allB (fun b => allB (fun c => ckc 1 (b + 4) (c + 1)) 12) 3 = true := by decide +kernel
theorem bkc_1_2 : allB (fun b => allB (fun c => ckc 1 (b + 7) (c + 1)) 12) 3 = true := by decide +kernel
theorem bkc_1_3 : allB (fun b => allB (fun c => ckc 1 (b + 10) (c + 1)) 12) 3 = true := by decide +kernel
theorem bkc_2_0 : allB (fun b => allB (fun c => ckc 2 (b + 1) (c + 1)) 12) 3 = true := by decide +kernel
theorem bkc_2_1 : allB (fun b => allB (fun c => ckc 2 (b + 4) (c + 1)) 12) 3 = true := by decide +kernel
theorem bkc_2_2 : allB (fun b => allB (fun c => ckc 2 (b + 7) (c + 1)) 12) 3 = true := by decide +kernel
theorem bkc_2_3 : allB (fun b => allB (fun c => ckc 2 (b + 10) (c + 1)) 12) 3 = true := by decide +kernel
theorem bkc_3_0 : allB (fun b => allB (fun c => ckc 3 (b + 1) (c + 1)) 12) 3 = true := by decide +kernel
theorem bkc_3_1 : allB (fun b => allB (fun c => ckc 3 (b + 4) (c + 1)) 12) 3 = true := by decide +kernel
theorem bkc_3_2 : allB (fun b => allB (fun c => ckc 3 (b + 7) (c + 1)) 12) 3 = true := by decide +kernel
theorem bkc_3_3 : allB (fun b => allB (fun c => ckc 3 (b + 10) (c + 1)) 12) 3 = true := by decide +kernel
theorem bkc_4_0 : allB (fun b => allB (fun c => ckc 4 (b + 1) (c + 1)) 12) 3 = true := by decide +kernel
theorem bkc_4_1 : allB (fun b => allB (fun c => ckc 4 (b + 4) (c + 1)) 12) 3 = true := by decide +kernel
theorem bkc_4_2 : allB (fun b => allB (fun c => ckc 4 (b + 7) (c + 1)) 12) 3 = true := by decide +kernel
theorem bkc_4_3 : allB (fun b => allB (fun c => ckc 4 (b + 10) (c + 1)) 12) 3 = true := by decide +kernel
theorem bkc_5_0 : allB (fun b => allB (fun c => ckc 5 (b + 1) (c + 1)) 12) 3 = true := by decide +kernel
theorem bkc_5_1 : allB (fun b => allB (fun c => ckc 5 (b + 4) (c + 1)) 12) 3 = true := by decide +kernel
theorem bkc_5_2 : allB (fun b => allB (fun c => ckc 5 (b + 7) (c + 1)) 12) 3 = true := by decide +kernel
theorem bkc_5_3 : allB (fun b => allB (fun c => ckc 5 (b + 10) (c + 1)) 12) 3 = true := by decide +kernel
theorem bkc_6_0 : allB (fun b => allB (fun c => ckc 6 (b + 1) (c + 1)) 12) 3 = true := by decide +kernel
theorem bkc_6_1 : allB (fun b => allB (fun c => ckc 6 (b + 4) (c + 1)) 12) 3 = true := by decide +kernel
theorem bkc_6_2 : allB (fun b => allB (fun c => ckc 6 (b + 7) (c + 1)) 12) 3 = true := by decide +kernel
theorem bkc_6_3 : allB (fun b => allB (fun c => ckc 6 (b + 10) (c + 1)) 12) 3 = true := by decide +kernel
theorem bkc_7_0 : allB (fun b => allB (fun c => ckc 7 (b + 1) (c + 1)) 12) 3 = true := by decide +kernel
theorem bkc_7_1 : allB (fun b => allB (fun c => ckc 7 (b + 4) (c + 1)) 12) 3 = true := by decide +kernel
theorem bkc_7_2 : allB (fun b => allB (fun c => ckc 7 (b + 7) (c + 1)) 12) 3 = true := by decide +kernel
theorem bkc_7_3 : allB (fun b => allB (fun c => ckc 7 (b + 10) (c + 1)) 12) 3 = true := by decide +kernel
theorem bkc_8_0 : allB (fun b => allB (fun c => ckc 8 (b + 1) (c + 1)) 12) 3 = true := by decide +kernel
theorem bkc_8_1 : allB (fun b => allB (fun c => ckc 8 (b + 4) (c + 1)) 12) 3 = true := by decide +kernel
theorem bkc_8_2 : allB (fun b => allB (fun c => ckc 8 (b + 7) (c + 1)) 12) 3 = true := by decide +kernel
theorem bkc_8_3 : allB (fun b => allB (fun c => ckc 8 (b + 10) (c + 1)) 12) 3 = true := by decide +kernel
theorem bkc_9_0 : allB (fun b => allB (fun c => ckc 9 (b + 1) (c + 1)) 12) 3 = true := by decide +kernel
theorem bkc_9_1 : allB (fun b => allB (fun c => ckc 9 (b + 4) (c + 1)) 12) 3 = true := by decide +kernel
theorem bkc_9_2 : allB (fun b => allB (fun c => ckc 9 (b + 7) (c + 1)) 12) 3 = true := by decide +kernel
theorem bkc_9_3 : allB (fun b => allB (fun c => ckc 9 (b + 10) (c + 1)) 12) 3 = true := by decide +kernel
theorem bkc_10_0 : allB (fun b => allB (fun c => ckc 10 (b + 1) (c + 1)) 12) 3 = true := by decide +kernel
theorem bkc_10_1 : allB (fun b => allB (fun c => ckc 10 (b + 4) (c + 1)) 12) 3 = true := by decide +kernel
theorem bkc_10_2 : allB (fun b => allB (fun c => ckc 10 (b + 7) (c + 1)) 12) 3 = true := by decide +kernel
theorem bkc_10_3 : allB (fun b => allB (fun c => ckc 10 (b + 10) (c + 1)) 12) 3 = true := by decide +kernel
theorem bkc_11_0 : allB (fun b => allB (fun c => ckc 11 (b + 1) (c + 1)) 12) 3 = true := by decide +kernel
theorem bkc_11_1 : allB (fun b => allB (fun c => ckc 11 (b + 4) (c + 1)) 12) 3 = true := by decide +kernel
theorem bkc_11_2 : allB (fun b => allB (fun c => ckc 11 (b + 7) (c + 1)) 12) 3 = true := by decide +kernel
theorem bkc_11_3 : allB (fun b => allB (fun c => ckc 11 (b + 10) (c + 1)) 12) 3 = true := by decide +kernel
theorem bkc_12_0 : allB (fun b => allB (fun c => ckc 12 (b + 1) (c + 1)) 12) 3 = true := by decide +kernel
theorem bkc_12_1 : allB (fun b => allB (fun c => ckc 12 (b + 4) (c + 1)) 12) 3 = true := by decide +kernel
theorem bkc_12_2 : allB (fun b => allB (fun c => ckc 12 (b + 7) (c + 1)) 12) 3 = true := by decide +kernel
theorem bkc_12_3 : allB (fun b => allB (fun c => ckc 12 (b + 10) (c + 1)) 12) 3 = true := by decide +kernel
theorem bkc {a b c : Nat} (ha : 1 ≤ a ∧ a ≤ 12) (hb : 1 ≤ b ∧ b ≤ 12) (hc : 1 ≤ c ∧ c ≤ 12) : ckc a b c = true := by
  obtain ⟨c', rfl⟩ : ∃ c', c = c' + 1 := ⟨c - 1, by omega⟩
  have hq : ∃ q b', q < 4 ∧ b' < 3 ∧ b = b' + (3 * q + 1) := ⟨(b - 1) / 3, (b - 1) % 3, by omega, by omega, by omega⟩
  obtain ⟨q, b', hq, hb', rfl⟩ := hq
  have hc' : c' < 12 := by omega
  rcases (show a = 1 ∨ a = 2 ∨ a = 3 ∨ a = 4 ∨ a = 5 ∨ a = 6 ∨ a = 7 ∨ a = 8 ∨ a = 9 ∨ a = 10 ∨ a = 11 ∨ a = 12 by omega) with rfl | rfl | rfl | rfl | rfl | rfl | rfl | rfl | rfl | rfl | rfl | rfl <;> rcases (show q = 0 ∨ q = 1 ∨ q = 2 ∨ q = 3 by omega) with rfl | rfl | rfl | rfl
  · exact allB_t (allB_t bkc_1_0 b' hb') c' hc'
  · exact allB_t (allB_t bkc_1_1 b' hb') c' hc'
  · exact allB_t (allB_t bkc_1_2 b' hb') c' hc'
  · exact allB_t (allB_t bkc_1_3 b' hb') c' hc'
  · exact allB_t (allB_t bkc_2_0 b' hb') c' hc'
  · exact allB_t (allB_t bkc_2_1 b' hb') c' hc'
  · exact allB_t (allB_t bkc_2_2 b' hb') c' hc'
  · exact allB_t (allB_t bkc_2_3 b' hb') c' hc'
  · exact allB_t (allB_t bkc_3_0 b' hb') c' hc'
  · exact allB_t (allB_t bkc_3_1 b' hb') c' hc'
  · exact allB_t (allB_t bkc_3_2 b' hb') c' hc'
  · exact allB_t (allB_t bkc_3_3 b' hb') c' hc'
  · exact allB_t (allB_t bkc_4_0 b' hb') c' hc'
  · exact allB_t (allB_t bkc_4_1 b' hb') c' hc'
  · exact allB_t (allB_t bkc_4_2 b' hb') c' hc'
  · exact allB_t (allB_t bkc_4_3 b' hb') c' hc'
  · exact allB_t (allB_t bkc_5_0 b' hb') c' hc'
  · exact allB_t (allB_t bkc_5_1 b' hb') c' hc'
  · exact allB_t (allB_t bkc_5_2 b' hb') c' hc'
  · exact allB_t (allB_t bkc_5_3 b' hb') c' hc'
  · exact allB_t (allB_t bkc_6_0 b' hb') c' hc'
  · exact allB_t (allB_t bkc_6_1 b' hb') c' hc'
  · exact allB_t (allB_t bkc_6_2 b' hb') c' hc'
  · exact allB_t (allB_t bkc_6_3 b' hb') c' hc'
  · exact allB_t (allB_t bkc_7_0 b' hb') c' hc'
  · exact allB_t (allB_t bkc_7_1 b' hb') c' hc'
  · exact allB_t (allB_t bkc_7_2 b' hb') c' hc'
  · exact allB_t (allB_t bkc_7_3 b' hb') c' hc'
  · exact allB_t (allB_t bkc_8_0 b' hb') c' hc'
  · exact allB_t (allB_t bkc_8_1 b' hb') c' hc'
  · exact allB_t (allB_t bkc_8_2 b' hb') c' hc'
  · exact allB_t (allB_t bkc_8_3 b' hb') c' hc'
  · exact allB_t (allB_t bkc_9_0 b' hb') c' hc'
  · exact allB_t (allB_t bkc_9_1 b' hb') c' hc'
  · exact allB_t (allB_t bkc_9_2 b' hb') c' hc'
  · exact allB_t (allB_t bkc_9_3 b' hb') c' hc'
  · exact allB_t (allB_t bkc_10_0 b' hb') c' hc'
  · exact allB_t (allB_t bkc_10_1 b' hb') c' hc'
  · exact allB_t (allB_t bkc_10_2 b' hb') c' hc'
  · exact allB_t (allB_t bkc_10_3 b' hb') c' hc'
  · exact allB_t (allB_t bkc_11_0 b' hb') c' hc'
  · exact allB_t (allB_t bkc_11_1 b' hb') c' hc'
  · exact allB_t (allB_t bkc_11_2 b' hb') c' hc'
  · exact allB_t (allB_t bkc_11_3 b' hb') c' hc'
  · exact allB_t (allB_t bkc_12_0 b' hb') c' hc'
  · exact allB_t (allB_t bkc_12_1 b' hb') c' hc'
  · exact allB_t (allB_t bkc_12_2 b' hb') c' hc'
  · exact allB_t (allB_t bkc_12_3 b' hb') c' hc'
