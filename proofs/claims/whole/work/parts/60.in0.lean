/-! the words that the proofs use are words of the tables -/
theorem mem_by {L T : List Cond} (is : List Nat) (h : is.map (fun i => T[i]?) = L.map some) : ∀ w ∈ L, w ∈ T := by
  intro w hw
  have h2 : some w ∈ L.map some := List.mem_map.mpr ⟨w, hw, rfl⟩
  rw [← h] at h2
  obtain ⟨i, -, hi⟩ := List.mem_map.mp h2
  exact List.mem_of_getElem? hi
theorem rin_1 : ∀ w ∈ wsL_law_r1, w ∈ lw_tbl := mem_by [37, 38, 25, 622, 623, 35, 619, 620, 24, 621, 39, 40, 41, 42, 43, 44, 45, 46, 26, 67, 68, 28, 219, 220] (by decide +kernel)
theorem rin_2 : ∀ w ∈ wsL_law_r2, w ∈ lw_tbl := mem_by [221, 222, 47, 48, 49, 50, 51, 27, 52, 53, 54, 55, 56, 57, 58, 59, 60, 61, 63, 69, 70, 71, 72, 73] (by decide +kernel)
theorem rin_3 : ∀ w ∈ wsL_law_r3, w ∈ lw_tbl := mem_by [74, 78, 79, 80, 81, 82, 30, 184, 185, 33, 206, 207, 34, 83, 84, 85, 129, 116, 117, 32, 130, 131, 86, 87] (by decide +kernel)
theorem rin_4 : ∀ w ∈ wsL_law_r4, w ∈ lw_tbl := mem_by [29, 88, 89, 132, 139, 90, 91, 31, 142, 147, 155, 159, 92, 93, 94, 95, 96, 97, 98, 99, 100, 101, 102, 103] (by decide +kernel)
theorem rin_5 : ∀ w ∈ wsL_law_r5, w ∈ lw_tbl := mem_by [104, 105, 115, 118, 119, 120, 121, 122, 123, 186, 187, 188, 193, 191, 194, 189, 190, 192, 208, 209, 210, 211, 624, 625] (by decide +kernel)
theorem rin_6 : ∀ w ∈ wsL_law_r6, w ∈ lw_tbl := mem_by [626, 627, 466, 632, 633, 689, 634, 635, 636, 637, 638, 645, 646, 647, 629, 630, 232, 233, 234, 235, 421, 422, 36, 430] (by decide +kernel)
theorem rin_7 : ∀ w ∈ wsL_law_r7, w ∈ lw_tbl := mem_by [236, 237, 238, 239, 240, 242, 243, 244, 245, 246, 247, 248, 249, 250, 251, 252, 253, 254, 255, 256, 133, 134, 257, 258] (by decide +kernel)
theorem rin_8 : ∀ w ∈ wsL_law_r8, w ∈ lw_tbl := mem_by [259, 260, 261, 263, 264, 265, 266, 267, 268, 269, 270, 145, 146, 140, 141, 137, 138, 156, 157, 271, 272, 273, 274, 275] (by decide +kernel)
