set_option maxRecDepth 40000 in
theorem is_at2 : wsL_law[197]? = some (Cond.code yL_isSlot cL_isSlot 13 (some .boolean)) := by rfl
theorem is_c0 : GoodIn wsL_law [Cond.code yL_isSlot cL_isSlot 13 (some .boolean)] := fun w h => by
  rw [List.mem_singleton.mp h]
  exact ⟨List.mem_of_getElem? is_at2, good_of_word (by decide +kernel)⟩
set_option maxRecDepth 20000 in
theorem is_r1a : GoodIn wsL_law wsL_isSlot_r1 := goodIn_r _ [100, 101, 102, 2, 103, 24, 104, 105, 106, 107, 82, 83, 84, 85, 86, 87, 14, 92, 93, 94, 95, 108, 109, 110] (by decide +kernel) (by decide +kernel)
theorem is_r1 : GoodIn wsL_law (Cond.code yL_isSlot cL_isSlot 13 (some .boolean) :: wsL_isSlot_r1) := goodIn_app is_c0 is_r1a
set_option maxRecDepth 20000 in
theorem is_r2 : GoodIn wsL_law wsL_isSlot_r2 := goodIn_r _ [111, 120, 121, 122, 123, 96, 97, 98, 99, 132, 133, 134, 135, 112, 113, 114, 115, 116, 117, 118, 42, 119, 63, 62] (by decide +kernel) (by decide +kernel)
set_option maxRecDepth 20000 in
theorem is_r3 : GoodIn wsL_law wsL_isSlot_r3 := goodIn_r _ [198, 199, 200, 201, 202, 203, 204, 205, 140, 141, 206, 207, 208, 209, 210, 211, 212, 213, 22, 23, 214, 215, 216, 21] (by decide +kernel) (by decide +kernel)
set_option maxRecDepth 20000 in
theorem is_r4 : GoodIn wsL_law wsL_isSlot_r4 := goodIn_r _ [217, 36, 35, 34, 218, 219, 220, 221, 222, 223, 224, 18, 142, 143, 144, 17, 145, 30, 146, 147, 148, 149, 150, 225] (by decide +kernel) (by decide +kernel)
set_option maxRecDepth 20000 in
theorem is_r5 : GoodIn wsL_law wsL_isSlot_r5 := goodIn_r _ [226, 227, 26, 228, 43, 50, 47, 229, 230, 231, 232, 233, 234, 235, 236, 237, 238, 239, 46, 240, 67, 68, 70, 71] (by decide +kernel) (by decide +kernel)
set_option maxRecDepth 20000 in
theorem is_r6 : GoodIn wsL_law wsL_isSlot_r6 := goodIn_r _ [72, 73, 69, 241, 242, 243, 244, 245, 246, 247, 248, 249, 250, 251, 252, 253, 61, 254, 255, 256, 257, 258, 259, 260] (by decide +kernel) (by decide +kernel)
set_option maxRecDepth 20000 in
theorem is_r7 : GoodIn wsL_law wsL_isSlot_r7 := goodIn_r _ [261, 262, 263, 264, 265, 266, 267, 268, 269, 270, 271, 272, 273, 274, 275, 276, 277, 278, 279, 280, 281, 282, 283, 284] (by decide +kernel) (by decide +kernel)
set_option maxRecDepth 20000 in
theorem is_r8 : GoodIn wsL_law wsL_isSlot_r8 := goodIn_r _ [285, 286, 56, 287, 129, 130, 131, 288, 289, 290, 291, 292, 293, 294, 295, 51, 49, 296, 297, 298, 54, 299, 300, 301] (by decide +kernel) (by decide +kernel)
set_option maxRecDepth 20000 in
theorem is_r9 : GoodIn wsL_law wsL_isSlot_r9 := goodIn_r _ [302, 303, 304, 305, 306, 307, 48, 164, 165, 308, 309, 310, 311, 53, 312, 313, 314, 315, 316, 317, 76, 318, 88, 89] (by decide +kernel) (by decide +kernel)
set_option maxRecDepth 20000 in
theorem is_r10 : GoodIn wsL_law wsL_isSlot_r10 := goodIn_r _ [90, 91] (by decide +kernel) (by decide +kernel)
set_option maxRecDepth 20000 in
theorem is_wsX50 : GoodIn wsL_law wsX50 := goodIn_r _ [319, 320, 321, 322, 323] (by decide +kernel) (by decide +kernel)
set_option maxRecDepth 20000 in
theorem is_wsX20 : GoodIn wsL_law wsX20 := goodIn_r _ [328, 329, 330, 331, 332, 333, 334, 335, 336, 337, 338, 339] (by decide +kernel) (by decide +kernel)
set_option maxRecDepth 20000 in
theorem is_wsX10 : GoodIn wsL_law wsX10 := goodIn_r _ [343, 344, 345, 346, 347, 348, 349] (by decide +kernel) (by decide +kernel)
set_option maxRecDepth 20000 in
theorem is_wsX00 : GoodIn wsL_law wsX00 := goodIn_r _ [340, 341, 342] (by decide +kernel) (by decide +kernel)
set_option maxRecDepth 20000 in
theorem is_wsX40 : GoodIn wsL_law wsX40 := goodIn_r _ [325, 326, 327] (by decide +kernel) (by decide +kernel)
set_option maxRecDepth 20000 in
theorem is_wsX30 : GoodIn wsL_law wsX30 := goodIn_r _ [324] (by decide +kernel) (by decide +kernel)
set_option maxRecDepth 20000 in
theorem ggL_law_L_isSlot : GoodIn wsL_law wsL_isSlot := goodIn_ca (goodIn_ca (goodIn_ca (goodIn_ca (goodIn_ca (goodIn_ca (goodIn_ca (goodIn_ca (goodIn_ca is_r1 (goodIn_app is_r2 (goodIn_app is_r3 (goodIn_app is_r4 (goodIn_app is_r5 (goodIn_app is_r6 (goodIn_app is_r7 (goodIn_app is_r8 (goodIn_app is_r9 (is_r10)))))))))) is_wsX50) is_wsX20) is_wsX10) is_wsX00) is_wsX40) is_wsX30) (goodIn_sub (fun _ h => List.mem_append_left _ (List.mem_append_left _ (List.mem_append_right _ h))) (by decide +kernel))) (goodIn_sub (fun _ h => List.mem_append_left _ (List.mem_append_right _ h)) (by decide +kernel))
set_option maxRecDepth 20000 in
theorem gL_law_L_isSlot : GoodIn wsL_law (va_wsS RL 93 yL_isSlot wsL_isSlot) := goodIn_app (goodIn_of _ (by decide +kernel)) ggL_law_L_isSlot
