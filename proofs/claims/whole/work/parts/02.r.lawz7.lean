set_option maxRecDepth 20000 in
theorem ggL_law_X2_count : GoodIn wsL_law wsX2_count := goodIn_r _ [531, 113, 114, 115, 5, 116, 117, 532, 533, 534, 535, 536, 537, 538, 539, 37, 121, 540, 541, 542, 543, 544, 545, 546, 122, 123, 124, 125, 38, 126, 127, 128, 129, 130, 131, 132, 133, 134, 135, 136, 137, 138, 547, 548, 549, 606, 607, 608, 609, 610, 611, 612, 613, 614, 615, 616] (by decide +kernel) (by decide +kernel)
set_option maxRecDepth 20000 in
theorem gL_law_X2_count : GoodIn wsL_law (wsV RL 145 RX2 yX2_count wsX2_count) := goodIn_app (goodIn_of _ (by decide +kernel)) ggL_law_X2_count
set_option maxRecDepth 20000 in
theorem ggL_law_L_first : GoodIn wsL_law wsL_first := goodIn_ca (goodIn_r _ [552, 43, 553, 554, 555, 2, 556, 66, 256, 48, 49, 50, 51, 52, 53, 54, 55, 56, 57, 58, 59, 60, 61, 62, 520, 521, 522, 523, 524, 525, 526, 527, 21, 67, 68, 69, 70, 71, 72, 73, 74, 75, 76, 77, 78, 79, 80, 81, 82, 83, 84, 85, 86, 87, 88, 89, 90, 91, 92, 20, 93, 94, 95, 96, 97, 98, 99, 100, 101, 102, 103, 104, 105, 106, 107, 108, 602, 603, 604, 605] (by decide +kernel) (by decide +kernel)) (goodIn_sub (fun _ h => List.mem_append_left _ (List.mem_append_right _ h)) (by decide +kernel))
set_option maxRecDepth 20000 in
theorem gL_law_L_first : GoodIn wsL_law (va_wsS RL 146 yL_first wsL_first) := goodIn_app (goodIn_of _ (by decide +kernel)) ggL_law_L_first
set_option maxRecDepth 20000 in
theorem ggL_law_X2_first : GoodIn wsL_law wsX2_first := goodIn_r _ [560, 113, 325, 114, 115, 5, 116, 117, 561, 562, 563, 564, 536, 537, 538, 539, 37, 121, 540, 541, 542, 543, 544, 545, 546, 122, 123, 124, 125, 38, 126, 127, 128, 129, 130, 131, 132, 133, 134, 135, 136, 137, 138, 547, 548, 549, 606, 607, 608, 609, 610, 611, 612, 613, 614, 615, 616] (by decide +kernel) (by decide +kernel)
set_option maxRecDepth 20000 in
theorem gL_law_X2_first : GoodIn wsL_law (wsV RL 148 RX2 yX2_first wsX2_first) := goodIn_app (goodIn_of _ (by decide +kernel)) ggL_law_X2_first
set_option maxRecDepth 20000 in
theorem ggL_law_L_begun : GoodIn wsL_law wsL_begun := goodIn_ca (goodIn_r _ [567, 43, 568, 569, 570, 2, 571, 21, 48, 49, 50, 51, 52, 53, 54, 55, 56, 57, 58, 59, 60, 61, 62, 520, 521, 522, 523, 524, 525, 526, 527, 67, 68, 69, 70, 71, 72, 73, 74, 75, 76, 77, 78, 79, 80, 81, 82, 83, 84, 85, 86, 87, 88, 89, 90, 91, 92, 20, 93, 94, 95, 96, 97, 98, 99, 100, 101, 102, 103, 104, 105, 106, 107, 108, 602, 603, 604, 605] (by decide +kernel) (by decide +kernel)) (goodIn_sub (fun _ h => List.mem_append_left _ (List.mem_append_right _ h)) (by decide +kernel))
set_option maxRecDepth 20000 in
theorem gL_law_L_begun : GoodIn wsL_law (va_wsS RL 149 yL_begun wsL_begun) := goodIn_app (goodIn_of _ (by decide +kernel)) ggL_law_L_begun
set_option maxRecDepth 20000 in
theorem ggL_law_X2_begun : GoodIn wsL_law wsX2_begun := goodIn_r _ [575, 113, 114, 115, 5, 116, 117, 532, 533, 534, 535, 536, 537, 538, 539, 37, 121, 540, 541, 542, 543, 544, 545, 546, 122, 123, 124, 125, 38, 126, 127, 128, 129, 130, 131, 132, 133, 134, 135, 136, 137, 138, 547, 548, 549, 606, 607, 608, 609, 610, 611, 612, 613, 614, 615, 616] (by decide +kernel) (by decide +kernel)
set_option maxRecDepth 20000 in
theorem gL_law_X2_begun : GoodIn wsL_law (wsV RL 151 RX2 yX2_begun wsX2_begun) := goodIn_app (goodIn_of _ (by decide +kernel)) ggL_law_X2_begun
set_option maxRecDepth 20000 in
theorem ggL_law_L_fold : GoodIn wsL_law wsL_fold := goodIn_ca (goodIn_r _ [578, 43, 579, 580, 581, 2, 582, 51, 52, 583, 584, 21] (by decide +kernel) (by decide +kernel)) (goodIn_sub (fun _ h => List.mem_append_left _ (List.mem_append_right _ h)) (by decide +kernel))
set_option maxRecDepth 20000 in
theorem gL_law_L_fold : GoodIn wsL_law (va_wsS RL 152 yL_fold wsL_fold) := goodIn_app (goodIn_of _ (by decide +kernel)) ggL_law_L_fold
