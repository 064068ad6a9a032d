set_option maxRecDepth 20000 in
theorem gL_law_X4_init : GoodIn wsL_law (wsX4_init) := ggL_law_X4_init
set_option maxRecDepth 20000 in
theorem ggL_law_X5_init : GoodIn wsL_law wsX5_init := goodIn_r _ [97, 98, 10, 11, 99, 100, 37, 101, 102, 103, 104, 105, 106, 107, 108, 109, 110, 111, 112, 113, 114, 115, 116, 117, 118, 669, 670, 671, 672, 673, 674, 675, 676, 677, 678, 679, 680, 681, 682, 683, 684, 685, 686, 687, 688, 689] (by decide +kernel) (by decide +kernel)
set_option maxRecDepth 20000 in
theorem gL_law_X5_init : GoodIn wsL_law (wsX5_init) := ggL_law_X5_init
set_option maxRecDepth 20000 in
theorem ggL_law_X4_type : GoodIn wsL_law wsX4_type := goodIn_r _ [122, 15, 21, 123, 124, 2, 125, 69, 70, 71, 126, 127, 128, 27, 129, 46, 38, 39, 40, 41, 42, 47, 48, 49, 50, 51, 52, 53, 43, 54, 55, 56, 57, 58, 59, 60, 61, 62, 63, 64, 65, 66, 67, 68, 72, 73, 74, 75, 76, 77, 78, 79, 80, 81, 82, 83, 44, 45, 84, 665, 666, 667, 668, 690, 691, 692, 697, 698, 699, 700, 701, 702, 703, 704, 705, 706] (by decide +kernel) (by decide +kernel)
set_option maxRecDepth 20000 in
theorem gL_law_X4_type : GoodIn wsL_law (wsV RL 13 RX4 yX4_type wsX4_type) := goodIn_app (goodIn_of _ (by decide +kernel)) ggL_law_X4_type
set_option maxRecDepth 20000 in
theorem ggL_law_X5_type : GoodIn wsL_law wsX5_type := goodIn_r _ [133, 100, 101, 102, 103, 104, 105, 134, 135, 5, 136, 137, 138, 139, 140, 141, 669, 670, 671, 672, 673, 674, 675, 676, 677, 678, 679, 680, 681, 682, 683, 684, 685, 686, 687, 688, 689] (by decide +kernel) (by decide +kernel)
set_option maxRecDepth 20000 in
theorem gL_law_X5_type : GoodIn wsL_law (wsV RL 17 RX5 yX5_type wsX5_type) := goodIn_app (goodIn_of _ (by decide +kernel)) ggL_law_X5_type
set_option maxRecDepth 20000 in
theorem ggL_law_X4_nest : GoodIn wsL_law wsX4_nest := goodIn_r _ [145, 15, 21, 123, 124, 2, 125, 69, 70, 71, 146, 147, 148, 27, 149, 42, 58, 59, 60, 61, 46, 62, 63, 665, 666, 667, 668, 690, 691, 692, 697, 698, 699, 700, 701, 702, 703, 704, 705, 706] (by decide +kernel) (by decide +kernel)
set_option maxRecDepth 20000 in
theorem gL_law_X4_nest : GoodIn wsL_law (wsV RL 18 RX4 yX4_nest wsX4_nest) := goodIn_app (goodIn_of _ (by decide +kernel)) ggL_law_X4_nest
set_option maxRecDepth 20000 in
theorem ggL_law_X5_nest : GoodIn wsL_law wsX5_nest := goodIn_r _ [153, 105, 154, 155, 156, 5, 157, 100, 134, 135, 136, 137, 138, 139, 140, 141, 669, 670, 671, 672, 673, 674, 675, 676, 677, 678, 679, 680, 681, 682, 683, 684, 685, 686, 687, 688, 689] (by decide +kernel) (by decide +kernel)
set_option maxRecDepth 20000 in
theorem gL_law_X5_nest : GoodIn wsL_law (wsV RL 22 RX5 yX5_nest wsX5_nest) := goodIn_app (goodIn_of _ (by decide +kernel)) ggL_law_X5_nest
set_option maxRecDepth 20000 in
theorem ggL_law_X4_drop : GoodIn wsL_law wsX4_drop := goodIn_r _ [161, 15, 21, 123, 124, 2, 125, 69, 70, 71, 162, 163, 164, 14, 165, 28, 32, 166, 167, 168, 27, 169, 46, 58, 59, 60, 61, 62, 63, 47, 48, 49, 50, 51, 52, 53, 43, 54, 55, 56, 57, 64, 65, 66, 67, 68, 72, 73, 74, 75, 40, 38, 41, 76, 77, 78, 79, 80, 81, 82, 83, 44, 45, 84, 170, 171, 172, 31, 173, 174, 88, 175, 665, 666, 667, 668, 690, 691, 692, 697, 698, 699, 700, 701, 702, 703, 704, 705, 706, 707, 708, 709, 710, 711, 712] (by decide +kernel) (by decide +kernel)
set_option maxRecDepth 20000 in
theorem gL_law_X4_drop : GoodIn wsL_law (wsV RL 23 RX4 yX4_drop wsX4_drop) := goodIn_app (goodIn_of _ (by decide +kernel)) ggL_law_X4_drop
set_option maxRecDepth 20000 in
theorem ggL_law_X5_drop : GoodIn wsL_law wsX5_drop := goodIn_r _ [179, 100, 141, 108, 109, 107, 154, 155, 156, 5, 157, 134, 135, 136, 137, 138, 139, 140, 669, 670, 671, 672, 673, 674, 675, 676, 677, 678, 679, 680, 681, 682, 683, 684, 685, 686, 687, 688, 689] (by decide +kernel) (by decide +kernel)
set_option maxRecDepth 20000 in
theorem gL_law_X5_drop : GoodIn wsL_law (wsV RL 27 RX5 yX5_drop wsX5_drop) := goodIn_app (goodIn_of _ (by decide +kernel)) ggL_law_X5_drop
set_option maxRecDepth 20000 in
theorem ggL_law_X4_member : GoodIn wsL_law wsX4_member := goodIn_r _ [183, 15, 21, 69, 70, 2, 71, 184, 185, 186, 14, 187, 28, 32, 188, 59, 60, 27, 61, 46, 62, 63, 189, 190, 191, 31, 192, 174, 89, 88, 175, 193, 194, 195, 196, 197, 198, 199, 90, 91, 665, 666, 667, 668, 690, 691, 692, 697, 698, 699, 700, 701, 702, 703, 704, 705, 706, 707, 708, 709, 710, 711, 712] (by decide +kernel) (by decide +kernel)
set_option maxRecDepth 20000 in
theorem gL_law_X4_member : GoodIn wsL_law (wsV RL 28 RX4 yX4_member wsX4_member) := goodIn_app (goodIn_of _ (by decide +kernel)) ggL_law_X4_member
set_option maxRecDepth 20000 in
theorem ggL_law_X5_member : GoodIn wsL_law wsX5_member := goodIn_r _ [203, 141, 108, 107, 109, 106, 110, 111, 112, 154, 155, 156, 5, 157, 100, 134, 135, 136, 137, 138, 139, 140, 204, 205, 206, 207, 669, 670, 671, 672, 673, 674, 675, 676, 677, 678, 679, 680, 681, 682, 683, 684, 685, 686, 687, 688, 689] (by decide +kernel) (by decide +kernel)
set_option maxRecDepth 20000 in
theorem gL_law_X5_member : GoodIn wsL_law (wsV RL 32 RX5 yX5_member wsX5_member) := goodIn_app (goodIn_of _ (by decide +kernel)) ggL_law_X5_member
set_option maxRecDepth 20000 in
theorem ggL_law_X4_remake : GoodIn wsL_law wsX4_remake := goodIn_r _ [211, 15, 21, 69, 70, 2, 71, 212, 213, 214, 31, 215, 90, 91, 216, 217, 218, 219, 174, 175, 62, 63, 665, 666, 667, 668, 690, 691, 692, 707, 708, 709, 710, 711, 712] (by decide +kernel) (by decide +kernel)
set_option maxRecDepth 20000 in
theorem gL_law_X4_remake : GoodIn wsL_law (wsV RL 33 RX4 yX4_remake wsX4_remake) := goodIn_app (goodIn_of _ (by decide +kernel)) ggL_law_X4_remake
set_option maxRecDepth 20000 in
theorem ggL_law_X5_remake : GoodIn wsL_law wsX5_remake := goodIn_r _ [223, 111, 141, 112, 224, 225, 226, 5, 227, 108, 107, 134, 135, 136, 669, 670, 671, 672, 673, 674, 675, 676, 677, 678, 679, 680, 681, 682, 683, 684, 685, 686, 687, 688, 689] (by decide +kernel) (by decide +kernel)
set_option maxRecDepth 20000 in
theorem gL_law_X5_remake : GoodIn wsL_law (wsV RL 37 RX5 yX5_remake wsX5_remake) := goodIn_app (goodIn_of _ (by decide +kernel)) ggL_law_X5_remake
set_option maxRecDepth 20000 in
theorem ggL_law_X4_remove : GoodIn wsL_law wsX4_remove := goodIn_r _ [231, 15, 21, 232, 233, 234, 31, 235, 175, 216, 217, 218, 219, 174, 70, 2, 71, 62, 63, 47, 48, 665, 666, 667, 668, 690, 691, 692, 707, 708, 709, 710, 711, 712] (by decide +kernel) (by decide +kernel)
set_option maxRecDepth 20000 in
theorem gL_law_X4_remove : GoodIn wsL_law (wsV RL 38 RX4 yX4_remove wsX4_remove) := goodIn_app (goodIn_of _ (by decide +kernel)) ggL_law_X4_remove
set_option maxRecDepth 20000 in
theorem ggL_law_X5_remove : GoodIn wsL_law wsX5_remove := goodIn_r _ [239, 107, 141, 224, 225, 226, 5, 227, 108, 134, 135, 136, 669, 670, 671, 672, 673, 674, 675, 676, 677, 678, 679, 680, 681, 682, 683, 684, 685, 686, 687, 688, 689] (by decide +kernel) (by decide +kernel)
set_option maxRecDepth 20000 in
theorem gL_law_X5_remove : GoodIn wsL_law (wsV RL 41 RX5 yX5_remove wsX5_remove) := goodIn_app (goodIn_of _ (by decide +kernel)) ggL_law_X5_remove
set_option maxRecDepth 20000 in
theorem ggL_law_X4_branch : GoodIn wsL_law wsX4_branch := goodIn_r _ [243, 15, 21, 244, 245, 246, 14, 247, 28, 32, 248, 249, 250, 27, 251, 46, 38, 252, 253, 254, 255, 39, 40, 41, 42, 49, 50, 51, 52, 53, 43, 54, 55, 56, 57, 58, 59, 60, 61, 62, 2, 63, 47, 48, 64, 65, 66, 67, 68, 69, 70, 71, 72, 73, 74, 75, 76, 77, 78, 79, 80, 81, 82, 83, 44, 45, 84, 256, 257, 258, 31, 259, 174, 175, 88, 260, 89, 90, 91, 261, 262, 263, 264, 265, 266, 267, 268, 269, 270, 271, 665, 666, 667, 668, 690, 691, 692, 697, 698, 699, 700, 701, 702, 703, 704, 705, 706, 707, 708, 709, 710, 711, 712] (by decide +kernel) (by decide +kernel)
set_option maxRecDepth 20000 in
theorem gL_law_X4_branch : GoodIn wsL_law (wsV RL 42 RX4 yX4_branch wsX4_branch) := goodIn_app (goodIn_of _ (by decide +kernel)) ggL_law_X4_branch
