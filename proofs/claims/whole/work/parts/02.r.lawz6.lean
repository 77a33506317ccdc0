set_option maxRecDepth 20000 in
theorem ggL_law_X2_best : GoodIn wsL_law wsX2_best := goodIn_r _ [490, 113, 114, 115, 5, 116, 117, 476, 477, 478, 479, 441, 35, 121, 122, 123, 124, 125, 38, 126, 127, 128, 129, 130, 131, 132, 133, 134, 135, 37, 136, 137, 138, 606, 607, 608, 609, 610, 611, 612, 613, 614, 615, 616] (by decide +kernel) (by decide +kernel)
set_option maxRecDepth 20000 in
theorem gL_law_X2_best : GoodIn wsL_law (wsV RL 135 RX2 yX2_best wsX2_best) := goodIn_app (goodIn_of _ (by decide +kernel)) ggL_law_X2_best
set_option maxRecDepth 20000 in
theorem ggL_law_L_putAll : GoodIn wsL_law wsL_putAll := goodIn_ca (goodIn_r _ [493, 43, 494, 495, 496, 2, 497, 19, 18, 48, 49, 50, 51, 52, 53, 54, 55, 56, 57, 58, 59, 60, 61, 62, 150, 151, 152, 153, 17, 67, 68, 69, 70, 71, 72, 73, 74, 75, 76, 77, 78, 79, 80, 81, 82, 83, 84, 85, 86, 87, 88, 89, 90, 91, 92, 20, 93, 94, 95, 96, 97, 98, 99, 100, 101, 102, 103, 104, 105, 106, 107, 108, 154, 155, 156, 16, 157, 26, 158, 159, 160, 161, 162, 163, 164, 165, 166, 167, 168, 169, 25, 170, 171, 172, 173, 174, 175, 176, 177, 178, 179, 180, 181, 182, 183, 184, 185, 186, 187, 188, 189, 190, 191, 192, 193, 194, 195, 196, 197, 198, 602, 603, 604, 605, 617, 618, 619, 620] (by decide +kernel) (by decide +kernel)) (goodIn_sub (fun _ h => List.mem_append_left _ (List.mem_append_right _ h)) (by decide +kernel))
set_option maxRecDepth 20000 in
theorem gL_law_L_putAll : GoodIn wsL_law (va_wsS RL 136 yL_putAll wsL_putAll) := goodIn_app (goodIn_of _ (by decide +kernel)) ggL_law_L_putAll
set_option maxRecDepth 20000 in
theorem ggL_law_X2_putAll : GoodIn wsL_law wsX2_putAll := goodIn_r _ [501, 113, 441, 35, 114, 115, 5, 116, 117, 204, 205, 206, 207, 203, 208, 34, 36, 122, 123, 124, 125, 38, 126, 127, 128, 129, 130, 131, 132, 133, 134, 135, 37, 136, 137, 138, 209, 210, 211, 212, 213, 214, 215, 216, 217, 218, 219, 220, 221, 222, 223, 224, 225, 226, 227, 228, 229, 230, 231, 232, 233, 234, 235, 236, 237, 238, 239, 240, 241, 242, 243, 244, 606, 607, 608, 609, 610, 611, 612, 613, 614, 615, 616] (by decide +kernel) (by decide +kernel)
set_option maxRecDepth 20000 in
theorem gL_law_X2_putAll : GoodIn wsL_law (wsV RL 138 RX2 yX2_putAll wsX2_putAll) := goodIn_app (goodIn_of _ (by decide +kernel)) ggL_law_X2_putAll
set_option maxRecDepth 20000 in
theorem ggL_law_L_takeAll : GoodIn wsL_law wsL_takeAll := goodIn_ca (goodIn_r _ [504, 43, 505, 506, 507, 2, 508, 19, 256, 18, 48, 49, 50, 51, 52, 53, 54, 55, 56, 57, 58, 59, 60, 61, 62, 252, 253, 254, 255, 17, 257, 258, 259, 260, 261, 262, 263, 16, 264, 265, 266, 267, 268, 28, 269, 270, 271, 272, 26, 25, 273, 274, 275, 276, 277, 278, 279, 280, 281, 282, 283, 284, 285, 286, 287, 66, 288, 289, 290, 291, 292, 293, 294, 295, 296, 297, 298, 299, 300, 20, 301, 302, 303, 304, 21, 96, 97, 98, 74, 75, 76, 77, 78, 79, 80, 81, 82, 83, 84, 85, 99, 100, 101, 305, 306, 307, 308, 309, 310, 311, 312, 602, 603, 604, 605, 617, 618, 619, 620] (by decide +kernel) (by decide +kernel)) (goodIn_sub (fun _ h => List.mem_append_left _ (List.mem_append_right _ h)) (by decide +kernel))
set_option maxRecDepth 20000 in
theorem gL_law_L_takeAll : GoodIn wsL_law (va_wsS RL 139 yL_takeAll wsL_takeAll) := goodIn_app (goodIn_of _ (by decide +kernel)) ggL_law_L_takeAll
set_option maxRecDepth 20000 in
theorem ggL_law_X2_takeAll : GoodIn wsL_law wsX2_takeAll := goodIn_r _ [512, 113, 441, 325, 35, 114, 115, 5, 116, 117, 317, 318, 319, 320, 321, 322, 323, 324, 121, 326, 327, 328, 329, 203, 34, 330, 331, 332, 333, 334, 335, 336, 337, 38, 338, 339, 340, 341, 342, 343, 344, 345, 346, 347, 348, 349, 350, 37, 351, 352, 353, 354, 136, 137, 138, 355, 356, 357, 358, 359, 360, 361, 362, 363, 606, 607, 608, 609, 610, 611, 612, 613, 614, 615, 616] (by decide +kernel) (by decide +kernel)
set_option maxRecDepth 20000 in
theorem gL_law_X2_takeAll : GoodIn wsL_law (wsV RL 141 RX2 yX2_takeAll wsX2_takeAll) := goodIn_app (goodIn_of _ (by decide +kernel)) ggL_law_X2_takeAll
set_option maxRecDepth 20000 in
theorem ggL_law_L_count : GoodIn wsL_law wsL_count := goodIn_ca (goodIn_r _ [515, 43, 516, 517, 518, 2, 519, 48, 49, 50, 51, 52, 53, 54, 55, 56, 57, 58, 59, 60, 61, 62, 520, 521, 522, 523, 524, 525, 526, 527, 21, 67, 68, 69, 70, 71, 72, 73, 74, 75, 76, 77, 78, 79, 80, 81, 82, 83, 84, 85, 86, 87, 88, 89, 90, 91, 92, 20, 93, 94, 95, 96, 97, 98, 99, 100, 101, 102, 103, 104, 105, 106, 107, 108, 602, 603, 604, 605] (by decide +kernel) (by decide +kernel)) (goodIn_sub (fun _ h => List.mem_append_left _ (List.mem_append_right _ h)) (by decide +kernel))
set_option maxRecDepth 20000 in
theorem gL_law_L_count : GoodIn wsL_law (va_wsS RL 142 yL_count wsL_count) := goodIn_app (goodIn_of _ (by decide +kernel)) ggL_law_L_count
