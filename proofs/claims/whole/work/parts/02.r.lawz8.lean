set_option maxRecDepth 20000 in
theorem ggL_law_X2_fold : GoodIn wsL_law wsX2_fold := goodIn_r _ [588, 589, 590, 113, 38, 606, 607, 608, 609, 610, 611, 612, 613, 614, 615, 616] (by decide +kernel) (by decide +kernel)
set_option maxRecDepth 20000 in
theorem gL_law_X2_fold : GoodIn wsL_law (wsV RL 154 RX2 yX2_fold wsX2_fold) := goodIn_app (goodIn_of _ (by decide +kernel)) ggL_law_X2_fold
set_option maxRecDepth 20000 in
theorem ggL_law_L_unfold : GoodIn wsL_law wsL_unfold := goodIn_ca (goodIn_r _ [593, 43, 594, 595, 596, 2, 597, 21, 63, 64, 65, 51, 52, 66] (by decide +kernel) (by decide +kernel)) (goodIn_sub (fun _ h => List.mem_append_left _ (List.mem_append_right _ h)) (by decide +kernel))
set_option maxRecDepth 20000 in
theorem gL_law_L_unfold : GoodIn wsL_law (va_wsS RL 155 yL_unfold wsL_unfold) := goodIn_app (goodIn_of _ (by decide +kernel)) ggL_law_L_unfold
set_option maxRecDepth 20000 in
theorem ggL_law_X2_unfold : GoodIn wsL_law wsX2_unfold := goodIn_r _ [601, 113, 38, 118, 119, 5, 120, 121, 606, 607, 608, 609, 610, 611, 612, 613, 614, 615, 616] (by decide +kernel) (by decide +kernel)
set_option maxRecDepth 20000 in
theorem gL_law_X2_unfold : GoodIn wsL_law (wsV RL 157 RX2 yX2_unfold wsX2_unfold) := goodIn_app (goodIn_of _ (by decide +kernel)) ggL_law_X2_unfold

