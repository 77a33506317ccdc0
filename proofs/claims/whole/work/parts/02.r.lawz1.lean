set_option maxRecDepth 20000 in
theorem ggL_law_X1_init : GoodIn wsL_law wsX1_init := goodIn_r _ [10, 11, 12, 13, 14, 15, 16, 17, 6, 18, 19, 20, 21, 22, 23, 24, 25, 26, 27, 28, 617, 618, 619, 620, 602, 603, 604, 605] (by decide +kernel) (by decide +kernel)
set_option maxRecDepth 20000 in
theorem gL_law_X1_init : GoodIn wsL_law (wsX1_init) := ggL_law_X1_init
set_option maxRecDepth 20000 in
theorem ggL_law_X2_init : GoodIn wsL_law wsX2_init := goodIn_r _ [31, 32, 12, 13, 33, 34, 6, 35, 36, 37, 38, 606, 607, 608, 609, 610, 611, 612, 613, 614, 615, 616] (by decide +kernel) (by decide +kernel)
set_option maxRecDepth 20000 in
theorem gL_law_X2_init : GoodIn wsL_law (wsX2_init) := ggL_law_X2_init
set_option maxRecDepth 20000 in
theorem ggL_law_L_length : GoodIn wsL_law wsL_length := goodIn_ca (goodIn_r _ [42, 43, 44, 45, 46, 2, 47, 48, 49, 50, 51, 52, 53, 54, 55, 56, 57, 58, 59, 60, 61, 62, 63, 64, 65, 66, 67, 68, 69, 70, 71, 72, 73, 74, 75, 76, 77, 78, 79, 80, 81, 82, 83, 84, 85, 86, 87, 88, 89, 90, 91, 92, 20, 93, 94, 95, 96, 97, 98, 99, 100, 101, 102, 103, 104, 105, 106, 107, 108, 602, 603, 604, 605] (by decide +kernel) (by decide +kernel)) (goodIn_sub (fun _ h => List.mem_append_left _ (List.mem_append_right _ h)) (by decide +kernel))
set_option maxRecDepth 20000 in
theorem gL_law_L_length : GoodIn wsL_law (va_wsS RL 77 yL_length wsL_length) := goodIn_app (goodIn_of _ (by decide +kernel)) ggL_law_L_length
set_option maxRecDepth 20000 in
theorem ggL_law_X2_length : GoodIn wsL_law wsX2_length := goodIn_r _ [112, 113, 114, 115, 5, 116, 117, 118, 119, 120, 121, 122, 123, 124, 125, 38, 126, 127, 128, 129, 130, 131, 132, 133, 134, 135, 37, 136, 137, 138, 606, 607, 608, 609, 610, 611, 612, 613, 614, 615, 616] (by decide +kernel) (by decide +kernel)
set_option maxRecDepth 20000 in
theorem gL_law_X2_length : GoodIn wsL_law (wsV RL 82 RX2 yX2_length wsX2_length) := goodIn_app (goodIn_of _ (by decide +kernel)) ggL_law_X2_length
set_option maxRecDepth 20000 in
theorem ggL_law_X2_thrown : GoodIn wsL_law wsX2_thrown := goodIn_r _ [142, 113, 606, 607, 608, 609, 610, 611, 612, 613, 614, 615, 616] (by decide +kernel) (by decide +kernel)
set_option maxRecDepth 20000 in
theorem gL_law_X2_thrown : GoodIn wsL_law (wsV RL 83 RX2 yX2_thrown wsX2_thrown) := goodIn_app (goodIn_of _ (by decide +kernel)) ggL_law_X2_thrown
set_option maxRecDepth 20000 in
theorem ggL_law_L_put : GoodIn wsL_law wsL_put := goodIn_ca (goodIn_r _ [145, 43, 146, 147, 148, 2, 149, 17, 48, 49, 50, 51, 52, 53, 54, 55, 56, 57, 58, 59, 60, 61, 62, 63, 64, 65, 66, 150, 151, 152, 153, 67, 68, 69, 70, 71, 72, 73, 74, 75, 76, 77, 78, 79, 80, 81, 82, 83, 84, 85, 86, 87, 88, 89, 90, 91, 92, 20, 93, 94, 95, 96, 97, 98, 99, 100, 101, 102, 103, 104, 105, 106, 107, 108, 154, 155, 156, 16, 157, 26, 158, 159, 160, 161, 162, 163, 164, 165, 166, 167, 168, 169, 25, 170, 171, 172, 173, 174, 175, 176, 177, 178, 179, 180, 181, 182, 183, 184, 185, 186, 187, 188, 189, 190, 191, 192, 193, 194, 195, 196, 197, 198, 602, 603, 604, 605, 617, 618, 619, 620] (by decide +kernel) (by decide +kernel)) (goodIn_sub (fun _ h => List.mem_append_left _ (List.mem_append_right _ h)) (by decide +kernel))
set_option maxRecDepth 20000 in
theorem gL_law_L_put : GoodIn wsL_law (va_wsS RL 87 yL_put wsL_put) := goodIn_app (goodIn_of _ (by decide +kernel)) ggL_law_L_put
