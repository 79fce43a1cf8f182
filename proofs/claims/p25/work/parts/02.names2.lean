theorem wIn_r {big : List Cond} (ws : List Cond) (ps : List Nat) (hp : ws = ps.filterMap (fun i => big[i]?)) : ∀ w ∈ ws, w ∈ big := by
  intro w hw
  rw [hp] at hw
  obtain ⟨i, -, hi⟩ := List.mem_filterMap.mp hw
  exact List.mem_of_getElem? hi
set_option maxRecDepth 20000 in
theorem wsL_law_r1_in : ∀ w ∈ wsL_law_r1, w ∈ lw_tbl := wIn_r _ [13, 14, 7, 55, 15, 16, 17, 18, 19, 20, 21, 22, 8, 99, 56, 57, 9, 100, 72, 73, 10, 101, 23, 24] (by decide +kernel)
set_option maxRecDepth 20000 in
theorem wsL_law_r2_in : ∀ w ∈ wsL_law_r2, w ∈ lw_tbl := wIn_r _ [25, 26, 51, 27, 28, 29, 30, 31, 32, 33, 34, 35, 36, 37, 38, 39, 41, 0, 42, 43, 45, 1, 46, 47] (by decide +kernel)
set_option maxRecDepth 20000 in
theorem wsL_law_r3_in : ∀ w ∈ wsL_law_r3, w ∈ lw_tbl := wIn_r _ [48, 49, 50, 59, 60, 61, 62, 75, 76, 77, 78, 80, 81, 292, 293, 6, 294, 214, 215, 216, 217, 218, 188, 189] (by decide +kernel)
set_option maxRecDepth 20000 in
theorem wsL_law_r4_in : ∀ w ∈ wsL_law_r4, w ∈ lw_tbl := wIn_r _ [190, 119, 120, 121, 122, 191, 192, 193, 194, 195, 197, 2, 198, 142, 136, 11, 137, 179, 180, 181, 182, 124, 125, 126] (by decide +kernel)
set_option maxRecDepth 20000 in
theorem wsL_law_r5_in : ∀ w ∈ wsL_law_r5, w ∈ lw_tbl := wIn_r _ [127, 64, 63, 135, 128, 129, 130, 131, 132, 134, 133, 12, 183, 184, 185, 186, 187, 199, 201, 3, 202, 203, 205, 4] (by decide +kernel)
set_option maxRecDepth 20000 in
theorem wsL_law_r6_in : ∀ w ∈ wsL_law_r6, w ∈ lw_tbl := wIn_r _ [206, 207, 209, 5, 210, 211, 212, 213, 259, 260, 261, 262, 263, 155, 156, 157, 158, 264, 265, 266, 267, 223, 224, 225] (by decide +kernel)
set_option maxRecDepth 20000 in
theorem wsL_law_r7_in : ∀ w ∈ wsL_law_r7, w ∈ lw_tbl := wIn_r _ [226, 268, 269, 270, 271, 251, 252, 253, 254, 272, 273, 274, 275, 276, 277, 278, 279, 243, 244, 245, 246, 280, 281, 282] (by decide +kernel)
set_option maxRecDepth 20000 in
theorem wsL_law_r8_in : ∀ w ∈ wsL_law_r8, w ∈ lw_tbl := wIn_r _ [283, 79, 231, 232, 233, 234, 235, 236, 237, 238, 239, 240, 241, 242, 159, 160, 161, 162, 115, 116, 117, 118, 163, 164] (by decide +kernel)
set_option maxRecDepth 20000 in
theorem wsL_law_r9_in : ∀ w ∈ wsL_law_r9, w ∈ lw_tbl := wIn_r _ [165, 166, 123, 167, 168, 169, 170, 171, 172, 173, 174, 175, 176, 177, 178, 111, 112, 113, 114, 138, 139, 140, 141, 247] (by decide +kernel)
set_option maxRecDepth 20000 in
theorem wsL_law_r10_in : ∀ w ∈ wsL_law_r10, w ∈ lw_tbl := wIn_r _ [248, 249, 250, 255, 256, 257, 258, 316, 317, 318, 319, 320, 321, 322, 323, 298, 299, 300, 284, 285, 286, 287, 288, 289] (by decide +kernel)
set_option maxRecDepth 20000 in
theorem wsL_law_r11_in : ∀ w ∈ wsL_law_r11, w ∈ lw_tbl := wIn_r _ [290, 291, 324, 325, 326, 327, 328, 329, 143, 144, 145, 146, 147, 148, 149, 150, 151, 152, 153, 154, 346, 347, 348, 349] (by decide +kernel)
set_option maxRecDepth 20000 in
theorem wsL_law_r12_in : ∀ w ∈ wsL_law_r12, w ∈ lw_tbl := wIn_r _ [350, 351, 352, 353, 330, 331, 332, 333, 334, 335, 336, 337, 338, 339, 340, 341, 342, 343, 344, 345, 313, 314, 315, 219] (by decide +kernel)
set_option maxRecDepth 20000 in
theorem wsL_law_r13_in : ∀ w ∈ wsL_law_r13, w ∈ lw_tbl := wIn_r _ [220, 221, 222, 227, 228, 229, 230, 295, 296, 297, 307, 308, 309, 304, 305, 306, 301, 302, 303, 310, 311, 312] (by decide +kernel)
set_option maxRecDepth 20000 in
theorem wsX00_in : ∀ w ∈ wsX00, w ∈ lw_tbl := wIn_r _ [52] (by decide +kernel)
set_option maxRecDepth 20000 in
theorem wsX10_in : ∀ w ∈ wsX10, w ∈ lw_tbl := wIn_r _ [65, 67, 69] (by decide +kernel)
set_option maxRecDepth 20000 in
theorem wsX30_in : ∀ w ∈ wsX30, w ∈ lw_tbl := wIn_r _ [82, 84, 86, 88, 90, 92, 94, 96] (by decide +kernel)
set_option maxRecDepth 20000 in
theorem wsX40_in : ∀ w ∈ wsX40, w ∈ lw_tbl := wIn_r _ [102, 104, 106, 108] (by decide +kernel)
theorem wsL_law_in : ∀ w ∈ wsL_law, w ∈ lw_tbl := (List.forall_mem_append.mpr ⟨(List.forall_mem_append.mpr ⟨(List.forall_mem_append.mpr ⟨(List.forall_mem_append.mpr ⟨(List.forall_mem_append.mpr ⟨(List.forall_mem_append.mpr ⟨wsL_law_r1_in, (List.forall_mem_append.mpr ⟨wsL_law_r2_in, (List.forall_mem_append.mpr ⟨wsL_law_r3_in, (List.forall_mem_append.mpr ⟨wsL_law_r4_in, (List.forall_mem_append.mpr ⟨wsL_law_r5_in, (List.forall_mem_append.mpr ⟨wsL_law_r6_in, (List.forall_mem_append.mpr ⟨wsL_law_r7_in, (List.forall_mem_append.mpr ⟨wsL_law_r8_in, (List.forall_mem_append.mpr ⟨wsL_law_r9_in, (List.forall_mem_append.mpr ⟨wsL_law_r10_in, (List.forall_mem_append.mpr ⟨wsL_law_r11_in, (List.forall_mem_append.mpr ⟨wsL_law_r12_in, wsL_law_r13_in⟩)⟩)⟩)⟩)⟩)⟩)⟩)⟩)⟩)⟩)⟩)⟩), wsX40_in⟩), wsX00_in⟩), wsX10_in⟩), wsX30_in⟩), (fun _ h => absurd h List.not_mem_nil)⟩)
