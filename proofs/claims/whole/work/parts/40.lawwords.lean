/-! the law's words, by their places in the tables -/
def wsL_law : List Cond := (wsL_law_r1 ++ (wsL_law_r2 ++ (wsL_law_r3 ++ (wsL_law_r4 ++ (wsL_law_r5 ++ (wsL_law_r6 ++ (wsL_law_r7 ++ (wsL_law_r8 ++ (wsL_law_r9 ++ (wsL_law_r10 ++ (wsL_law_r11 ++ (wsL_law_r12 ++ (wsL_law_r13 ++ (wsL_law_r14 ++ wsL_law_r15)))))))))))))) ++ wsX20 ++ wsX30 ++ wsX10 ++ wsX00 ++ ([] : List Cond)
set_option maxRecDepth 20000 in
theorem wsL_r1_in : GoodIn lw_tbl wsL_law_r1 := goodIn_r _ [45, 46, 38, 301, 302, 41, 47, 48, 49, 50, 51, 52, 53, 54, 39, 99, 98, 100, 101, 102, 103, 104, 56, 57] (by decide +kernel) (by decide +kernel)
set_option maxRecDepth 20000 in
theorem wsL_r2_in : GoodIn lw_tbl wsL_law_r2 := goodIn_r _ [58, 59, 86, 61, 40, 88, 89, 63, 64, 65, 303, 304, 305, 306, 308, 309, 310, 311, 312, 313, 314, 315, 316, 344] (by decide +kernel) (by decide +kernel)
set_option maxRecDepth 20000 in
theorem wsL_r3_in : GoodIn lw_tbl wsL_law_r3 := goodIn_r _ [317, 318, 118, 119, 120, 121, 122, 123, 124, 125, 126, 127, 130, 0, 131, 132, 134, 1, 135, 136, 137, 42, 138, 141] (by decide +kernel) (by decide +kernel)
set_option maxRecDepth 20000 in
theorem wsL_r4_in : GoodIn lw_tbl wsL_law_r4 := goodIn_r _ [2, 142, 68, 71, 74, 143, 145, 3, 146, 149, 4, 150, 153, 5, 154, 155, 157, 6, 158, 159, 161, 7, 162, 163] (by decide +kernel) (by decide +kernel)
set_option maxRecDepth 20000 in
theorem wsL_r5_in : GoodIn lw_tbl wsL_law_r5 := goodIn_r _ [165, 8, 166, 169, 9, 170, 171, 172, 43, 173, 174, 175, 176, 179, 10, 180, 182, 183, 184, 185, 186, 187, 188, 189] (by decide +kernel) (by decide +kernel)
set_option maxRecDepth 20000 in
theorem wsL_r6_in : GoodIn lw_tbl wsL_law_r6 := goodIn_r _ [191, 192, 193, 194, 195, 196, 198, 11, 199, 200, 202, 201, 44, 203, 345, 346, 347, 348, 307, 349, 350, 351, 352, 354] (by decide +kernel) (by decide +kernel)
set_option maxRecDepth 20000 in
theorem wsL_r7_in : GoodIn lw_tbl wsL_law_r7 := goodIn_r _ [22, 355, 356, 358, 23, 359, 360, 362, 24, 363, 364, 366, 25, 367, 368, 370, 26, 371, 372, 374, 27, 375, 376, 378] (by decide +kernel) (by decide +kernel)
set_option maxRecDepth 20000 in
theorem wsL_r8_in : GoodIn lw_tbl wsL_law_r8 := goodIn_r _ [28, 379, 380, 382, 29, 383, 384, 386, 30, 387, 388, 390, 31, 391, 392, 393, 394, 395, 396, 397, 204, 205, 206, 207] (by decide +kernel) (by decide +kernel)
set_option maxRecDepth 20000 in
theorem wsL_r9_in : GoodIn lw_tbl wsL_law_r9 := goodIn_r _ [398, 399, 400, 401, 208, 209, 210, 211, 212, 213, 214, 402, 403, 404, 405, 215, 216, 217, 218, 219, 221, 12, 222, 223] (by decide +kernel) (by decide +kernel)
set_option maxRecDepth 20000 in
theorem wsL_r10_in : GoodIn lw_tbl wsL_law_r10 := goodIn_r _ [225, 13, 226, 227, 229, 14, 230, 231, 233, 15, 234, 236, 238, 16, 239, 240, 242, 17, 243, 244, 246, 18, 247, 248] (by decide +kernel) (by decide +kernel)
set_option maxRecDepth 20000 in
theorem wsL_r11_in : GoodIn lw_tbl wsL_law_r11 := goodIn_r _ [249, 250, 252, 19, 253, 254, 256, 20, 257, 258, 406, 407, 408, 409, 410, 412, 32, 413, 414, 416, 33, 417, 418, 420] (by decide +kernel) (by decide +kernel)
set_option maxRecDepth 20000 in
theorem wsL_r12_in : GoodIn lw_tbl wsL_law_r12 := goodIn_r _ [34, 421, 422, 424, 35, 425, 426, 428, 36, 429, 430, 431, 432, 259, 260, 261, 262, 433, 434, 435, 436, 263, 264, 265] (by decide +kernel) (by decide +kernel)
set_option maxRecDepth 20000 in
theorem wsL_r13_in : GoodIn lw_tbl wsL_law_r13 := goodIn_r _ [266, 437, 438, 439, 440, 441, 442, 443, 267, 268, 269, 270, 273, 21, 274, 275, 444, 445, 446, 447, 277, 278, 279, 280] (by decide +kernel) (by decide +kernel)
set_option maxRecDepth 20000 in
theorem wsL_r14_in : GoodIn lw_tbl wsL_law_r14 := goodIn_r _ [448, 449, 450, 451, 281, 282, 283, 284, 452, 453, 454, 455, 285, 286, 287, 288, 456, 457, 458, 459, 289, 290, 291, 292] (by decide +kernel) (by decide +kernel)
set_option maxRecDepth 20000 in
theorem wsL_r15_in : GoodIn lw_tbl wsL_law_r15 := goodIn_r _ [460, 461, 462, 463, 293, 294, 295, 296, 464, 465, 466, 467, 297, 298, 299, 300, 468, 469, 470, 471] (by decide +kernel) (by decide +kernel)
set_option maxRecDepth 20000 in
theorem wsL_X2_in : GoodIn lw_tbl wsX20 := goodIn_r _ [105, 107, 109, 111, 113, 115] (by decide +kernel) (by decide +kernel)
set_option maxRecDepth 20000 in
theorem wsL_X3_in : GoodIn lw_tbl wsX30 := goodIn_r _ [319, 321, 323, 325, 327, 329, 331, 333, 335, 337, 339, 341] (by decide +kernel) (by decide +kernel)
set_option maxRecDepth 20000 in
theorem wsL_X1_in : GoodIn lw_tbl wsX10 := goodIn_r _ [91, 93, 95] (by decide +kernel) (by decide +kernel)
set_option maxRecDepth 20000 in
theorem wsL_X0_in : GoodIn lw_tbl wsX00 := goodIn_r _ [77, 79, 81, 83] (by decide +kernel) (by decide +kernel)
theorem wsL_law_in : ∀ w ∈ wsL_law, w ∈ lw_tbl := fun w h => ((goodIn_app (goodIn_app (goodIn_app (goodIn_app (goodIn_app (goodIn_app wsL_r1_in (goodIn_app wsL_r2_in (goodIn_app wsL_r3_in (goodIn_app wsL_r4_in (goodIn_app wsL_r5_in (goodIn_app wsL_r6_in (goodIn_app wsL_r7_in (goodIn_app wsL_r8_in (goodIn_app wsL_r9_in (goodIn_app wsL_r10_in (goodIn_app wsL_r11_in (goodIn_app wsL_r12_in (goodIn_app wsL_r13_in (goodIn_app wsL_r14_in wsL_r15_in)))))))))))))) wsL_X2_in) wsL_X3_in) wsL_X1_in) wsL_X0_in) (fun _ h => absurd h List.not_mem_nil)) w h).1
theorem inlX0 : ∀ w ∈ wsX00, w ∈ wsL_law := fun _ h => List.mem_append_left _ (List.mem_append_right _ h)
theorem inX0 : ∀ w ∈ wsX00, w ∈ lw_tbl := fun w h => wsL_law_in w (inlX0 w h)
theorem inlX1 : ∀ w ∈ wsX10, w ∈ wsL_law := fun _ h => List.mem_append_left _ (List.mem_append_left _ (List.mem_append_right _ h))
theorem inX1 : ∀ w ∈ wsX10, w ∈ lw_tbl := fun w h => wsL_law_in w (inlX1 w h)
theorem inlX2 : ∀ w ∈ wsX20, w ∈ wsL_law := fun _ h => List.mem_append_left _ (List.mem_append_left _ (List.mem_append_left _ (List.mem_append_left _ (List.mem_append_right _ h))))
theorem inX2 : ∀ w ∈ wsX20, w ∈ lw_tbl := fun w h => wsL_law_in w (inlX2 w h)
theorem inlX3 : ∀ w ∈ wsX30, w ∈ wsL_law := fun _ h => List.mem_append_left _ (List.mem_append_left _ (List.mem_append_left _ (List.mem_append_right _ h)))
theorem inX3 : ∀ w ∈ wsX30, w ∈ lw_tbl := fun w h => wsL_law_in w (inlX3 w h)
set_option maxRecDepth 20000 in
theorem nst_eq : nstW = [181, 190, 276, 62, 139, 55, 128, 147, 151, 235, 271, 167, 177, 66, 69, 72, 75, 90, 87, 67, 73, 76, 70].filterMap (fun i => lw_tbl[i]?) := by decide +kernel
theorem nst_in : ∀ w ∈ nstW, w ∈ lw_tbl := by
  intro w hw
  rw [nst_eq] at hw
  obtain ⟨i, -, hi⟩ := List.mem_filterMap.mp hw
  exact List.mem_of_getElem? hi
set_option maxRecDepth 20000 in
theorem ao_in : Cond.arrayOver (.object RX0) ∈ lw_tbl := List.mem_of_getElem? (i := 60) (by decide +kernel)
