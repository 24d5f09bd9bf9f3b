/-! the law's words, by their places in the tables -/
def wsL_law : List Cond := (wsL_law_r1 ++ (wsL_law_r2 ++ (wsL_law_r3 ++ (wsL_law_r4 ++ (wsL_law_r5 ++ (wsL_law_r6 ++ (wsL_law_r7 ++ (wsL_law_r8 ++ (wsL_law_r9 ++ (wsL_law_r10 ++ (wsL_law_r11 ++ (wsL_law_r12 ++ (wsL_law_r13 ++ (wsL_law_r14 ++ (wsL_law_r15 ++ wsL_law_r16))))))))))))))) ++ wsX20 ++ wsX30 ++ wsX10 ++ wsX00 ++ ([] : List Cond)
set_option maxRecDepth 20000 in
theorem wsL_r1_in : GoodIn lw_tbl wsL_law_r1 := goodIn_r _ [50, 51, 43, 329, 330, 46, 52, 53, 54, 55, 56, 57, 58, 59, 44, 104, 103, 105, 106, 107, 108, 109, 110, 61] (by decide +kernel) (by decide +kernel)
set_option maxRecDepth 20000 in
theorem wsL_r2_in : GoodIn lw_tbl wsL_law_r2 := goodIn_r _ [62, 63, 64, 91, 66, 45, 93, 94, 68, 69, 70, 331, 332, 333, 334, 336, 337, 338, 339, 340, 341, 342, 343, 344] (by decide +kernel) (by decide +kernel)
set_option maxRecDepth 20000 in
theorem wsL_r3_in : GoodIn lw_tbl wsL_law_r3 := goodIn_r _ [372, 345, 346, 126, 127, 128, 129, 130, 131, 132, 133, 134, 135, 138, 0, 139, 140, 142, 1, 143, 144, 145, 47, 146] (by decide +kernel) (by decide +kernel)
set_option maxRecDepth 20000 in
theorem wsL_r4_in : GoodIn lw_tbl wsL_law_r4 := goodIn_r _ [149, 2, 150, 73, 76, 79, 151, 153, 3, 154, 157, 4, 158, 161, 5, 162, 163, 165, 6, 166, 167, 168, 170, 7] (by decide +kernel) (by decide +kernel)
set_option maxRecDepth 20000 in
theorem wsL_r5_in : GoodIn lw_tbl wsL_law_r5 := goodIn_r _ [171, 172, 174, 8, 175, 178, 9, 179, 180, 181, 48, 182, 183, 184, 185, 188, 10, 189, 192, 11, 193, 196, 12, 197] (by decide +kernel) (by decide +kernel)
set_option maxRecDepth 20000 in
theorem wsL_r6_in : GoodIn lw_tbl wsL_law_r6 := goodIn_r _ [198, 200, 201, 202, 203, 204, 205, 206, 207, 208, 210, 13, 211, 213, 214, 215, 216, 217, 218, 220, 14, 221, 222, 224] (by decide +kernel) (by decide +kernel)
set_option maxRecDepth 20000 in
theorem wsL_r7_in : GoodIn lw_tbl wsL_law_r7 := goodIn_r _ [15, 225, 226, 228, 16, 229, 230, 232, 17, 233, 234, 236, 18, 237, 239, 241, 19, 242, 243, 244, 245, 247, 20, 248] (by decide +kernel) (by decide +kernel)
set_option maxRecDepth 20000 in
theorem wsL_r8_in : GoodIn lw_tbl wsL_law_r8 := goodIn_r _ [249, 251, 21, 252, 253, 255, 22, 256, 257, 259, 23, 260, 262, 264, 24, 265, 266, 268, 267, 49, 373, 374, 375, 376] (by decide +kernel) (by decide +kernel)
set_option maxRecDepth 20000 in
theorem wsL_r9_in : GoodIn lw_tbl wsL_law_r9 := goodIn_r _ [335, 377, 378, 379, 380, 382, 27, 383, 384, 386, 28, 387, 388, 390, 29, 391, 392, 394, 30, 395, 396, 398, 31, 399] (by decide +kernel) (by decide +kernel)
set_option maxRecDepth 20000 in
theorem wsL_r10_in : GoodIn lw_tbl wsL_law_r10 := goodIn_r _ [400, 402, 32, 403, 404, 406, 33, 407, 408, 410, 34, 411, 412, 414, 35, 415, 416, 418, 36, 419, 420, 421, 422, 423] (by decide +kernel) (by decide +kernel)
set_option maxRecDepth 20000 in
theorem wsL_r11_in : GoodIn lw_tbl wsL_law_r11 := goodIn_r _ [424, 425, 269, 270, 271, 272, 426, 427, 428, 429, 273, 274, 275, 276, 277, 278, 279, 430, 431, 432, 433, 280, 281, 282] (by decide +kernel) (by decide +kernel)
set_option maxRecDepth 20000 in
theorem wsL_r12_in : GoodIn lw_tbl wsL_law_r12 := goodIn_r _ [283, 284, 286, 25, 287, 288, 290, 26, 291, 292, 434, 435, 436, 437, 438, 440, 37, 441, 442, 444, 38, 445, 446, 448] (by decide +kernel) (by decide +kernel)
set_option maxRecDepth 20000 in
theorem wsL_r13_in : GoodIn lw_tbl wsL_law_r13 := goodIn_r _ [39, 449, 450, 452, 40, 453, 454, 456, 41, 457, 458, 459, 460, 293, 294, 295, 296, 461, 462, 463, 464, 297, 298, 299] (by decide +kernel) (by decide +kernel)
set_option maxRecDepth 20000 in
theorem wsL_r14_in : GoodIn lw_tbl wsL_law_r14 := goodIn_r _ [300, 465, 466, 467, 468, 469, 470, 471, 301, 302, 303, 304, 472, 473, 474, 475, 305, 306, 307, 308, 476, 477, 478, 479] (by decide +kernel) (by decide +kernel)
set_option maxRecDepth 20000 in
theorem wsL_r15_in : GoodIn lw_tbl wsL_law_r15 := goodIn_r _ [309, 310, 311, 312, 480, 481, 482, 483, 313, 314, 315, 316, 484, 485, 486, 487, 317, 318, 319, 320, 488, 489, 490, 491] (by decide +kernel) (by decide +kernel)
set_option maxRecDepth 20000 in
theorem wsL_r16_in : GoodIn lw_tbl wsL_law_r16 := goodIn_r _ [321, 322, 323, 324, 492, 493, 494, 495, 325, 326, 327, 328, 496, 497, 498, 499] (by decide +kernel) (by decide +kernel)
set_option maxRecDepth 20000 in
theorem wsL_X2_in : GoodIn lw_tbl wsX20 := goodIn_r _ [111, 113, 115, 117, 119, 121, 123] (by decide +kernel) (by decide +kernel)
set_option maxRecDepth 20000 in
theorem wsL_X3_in : GoodIn lw_tbl wsX30 := goodIn_r _ [347, 349, 351, 353, 355, 357, 359, 361, 363, 365, 367, 369] (by decide +kernel) (by decide +kernel)
set_option maxRecDepth 20000 in
theorem wsL_X1_in : GoodIn lw_tbl wsX10 := goodIn_r _ [96, 98, 100] (by decide +kernel) (by decide +kernel)
set_option maxRecDepth 20000 in
theorem wsL_X0_in : GoodIn lw_tbl wsX00 := goodIn_r _ [82, 84, 86, 88] (by decide +kernel) (by decide +kernel)
theorem wsL_law_in : ∀ w ∈ wsL_law, w ∈ lw_tbl := fun w h => ((goodIn_app (goodIn_app (goodIn_app (goodIn_app (goodIn_app (goodIn_app wsL_r1_in (goodIn_app wsL_r2_in (goodIn_app wsL_r3_in (goodIn_app wsL_r4_in (goodIn_app wsL_r5_in (goodIn_app wsL_r6_in (goodIn_app wsL_r7_in (goodIn_app wsL_r8_in (goodIn_app wsL_r9_in (goodIn_app wsL_r10_in (goodIn_app wsL_r11_in (goodIn_app wsL_r12_in (goodIn_app wsL_r13_in (goodIn_app wsL_r14_in (goodIn_app wsL_r15_in wsL_r16_in))))))))))))))) wsL_X2_in) wsL_X3_in) wsL_X1_in) wsL_X0_in) (fun _ h => absurd h List.not_mem_nil)) w h).1
theorem inlX0 : ∀ w ∈ wsX00, w ∈ wsL_law := fun _ h => List.mem_append_left _ (List.mem_append_right _ h)
theorem inX0 : ∀ w ∈ wsX00, w ∈ lw_tbl := fun w h => wsL_law_in w (inlX0 w h)
theorem inlX1 : ∀ w ∈ wsX10, w ∈ wsL_law := fun _ h => List.mem_append_left _ (List.mem_append_left _ (List.mem_append_right _ h))
theorem inX1 : ∀ w ∈ wsX10, w ∈ lw_tbl := fun w h => wsL_law_in w (inlX1 w h)
theorem inlX2 : ∀ w ∈ wsX20, w ∈ wsL_law := fun _ h => List.mem_append_left _ (List.mem_append_left _ (List.mem_append_left _ (List.mem_append_left _ (List.mem_append_right _ h))))
theorem inX2 : ∀ w ∈ wsX20, w ∈ lw_tbl := fun w h => wsL_law_in w (inlX2 w h)
theorem inlX3 : ∀ w ∈ wsX30, w ∈ wsL_law := fun _ h => List.mem_append_left _ (List.mem_append_left _ (List.mem_append_left _ (List.mem_append_right _ h)))
theorem inX3 : ∀ w ∈ wsX30, w ∈ lw_tbl := fun w h => wsL_law_in w (inlX3 w h)
set_option maxRecDepth 20000 in
theorem nst_eq : nstW = [212, 199, 67, 147, 60, 136, 155, 159, 186, 238, 176, 190, 194, 261, 71, 74, 77, 80, 95, 92, 72, 78, 81, 75].filterMap (fun i => lw_tbl[i]?) := by decide +kernel
theorem nst_in : ∀ w ∈ nstW, w ∈ lw_tbl := by
  intro w hw
  rw [nst_eq] at hw
  obtain ⟨i, -, hi⟩ := List.mem_filterMap.mp hw
  exact List.mem_of_getElem? hi
set_option maxRecDepth 20000 in
theorem ao_in : Cond.arrayOver (.object RX0) ∈ lw_tbl := List.mem_of_getElem? (i := 65) (by decide +kernel)
