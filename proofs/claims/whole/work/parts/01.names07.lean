set_option maxRecDepth 20000 in
theorem ggL_law_X5_branch : GoodIn wsL_law wsX5_branch := goodIn_r _ [275, 100, 101, 102, 103, 104, 105, 108, 107, 109, 106, 110, 111, 112, 141, 669, 670, 671, 672, 673, 674, 675, 676, 677, 678, 679, 680, 681, 682, 683, 684, 685, 686, 687, 688, 689] (by decide +kernel) (by decide +kernel)
set_option maxRecDepth 20000 in
theorem gL_law_X5_branch : GoodIn wsL_law (wsV RL 46 RX5 yX5_branch wsX5_branch) := goodIn_app (goodIn_of _ (by decide +kernel)) ggL_law_X5_branch
set_option maxRecDepth 20000 in
theorem ggL_law_X4_write : GoodIn wsL_law wsX4_write := goodIn_r _ [279, 21, 69, 70, 2, 71, 665, 666, 667, 668] (by decide +kernel) (by decide +kernel)
set_option maxRecDepth 20000 in
theorem gL_law_X4_write : GoodIn wsL_law (wsV RL 47 RX4 yX4_write wsX4_write) := goodIn_app (goodIn_of _ (by decide +kernel)) ggL_law_X4_write
set_option maxRecDepth 20000 in
theorem ggL_law_X5_write : GoodIn wsL_law wsX5_write := goodIn_r _ [283, 141, 134, 135, 5, 136, 669, 670, 671, 672, 673, 674, 675, 676, 677, 678, 679, 680, 681, 682, 683, 684, 685, 686, 687, 688, 689] (by decide +kernel) (by decide +kernel)
set_option maxRecDepth 20000 in
theorem gL_law_X5_write : GoodIn wsL_law (wsV RL 50 RX5 yX5_write wsX5_write) := goodIn_app (goodIn_of _ (by decide +kernel)) ggL_law_X5_write
set_option maxRecDepth 20000 in
theorem ggL_law_X4_refer : GoodIn wsL_law wsX4_refer := goodIn_r _ [287, 20, 17, 69, 70, 2, 71, 288, 289, 290, 19, 291, 292, 293, 294, 295, 665, 666, 667, 668, 693, 694, 695, 696] (by decide +kernel) (by decide +kernel)
set_option maxRecDepth 20000 in
theorem gL_law_X4_refer : GoodIn wsL_law (wsV RL 51 RX4 yX4_refer wsX4_refer) := goodIn_app (goodIn_of _ (by decide +kernel)) ggL_law_X4_refer
set_option maxRecDepth 20000 in
theorem ggL_law_X5_refer : GoodIn wsL_law wsX5_refer := goodIn_r _ [299, 300, 113, 114, 115, 116, 134, 135, 5, 136, 669, 670, 671, 672, 673, 674, 675, 676, 677, 678, 679, 680, 681, 682, 683, 684, 685, 686, 687, 688, 689] (by decide +kernel) (by decide +kernel)
set_option maxRecDepth 20000 in
theorem gL_law_X5_refer : GoodIn wsL_law (wsV RL 55 RX5 yX5_refer wsX5_refer) := goodIn_app (goodIn_of _ (by decide +kernel)) ggL_law_X5_refer
set_option maxRecDepth 20000 in
theorem ggL_law_X4_forget : GoodIn wsL_law wsX4_forget := goodIn_r _ [304, 20, 665, 666, 667, 668] (by decide +kernel) (by decide +kernel)
set_option maxRecDepth 20000 in
theorem gL_law_X4_forget : GoodIn wsL_law (wsV RL 56 RX4 yX4_forget wsX4_forget) := goodIn_app (goodIn_of _ (by decide +kernel)) ggL_law_X4_forget
set_option maxRecDepth 20000 in
theorem ggL_law_X5_forget : GoodIn wsL_law wsX5_forget := goodIn_r _ [308, 300, 669, 670, 671, 672, 673, 674, 675, 676, 677, 678, 679, 680, 681, 682, 683, 684, 685, 686, 687, 688, 689] (by decide +kernel) (by decide +kernel)
set_option maxRecDepth 20000 in
theorem gL_law_X5_forget : GoodIn wsL_law (wsV RL 59 RX5 yX5_forget wsX5_forget) := goodIn_app (goodIn_of _ (by decide +kernel)) ggL_law_X5_forget
set_option maxRecDepth 20000 in
theorem ggL_law_X4_load : GoodIn wsL_law wsX4_load := goodIn_r _ [312, 15, 69, 70, 2, 71, 313, 314, 315, 27, 316, 43, 665, 666, 667, 668, 690, 691, 692, 697, 698, 699, 700, 701, 702, 703, 704, 705, 706] (by decide +kernel) (by decide +kernel)
set_option maxRecDepth 20000 in
theorem gL_law_X4_load : GoodIn wsL_law (wsV RL 60 RX4 yX4_load wsX4_load) := goodIn_app (goodIn_of _ (by decide +kernel)) ggL_law_X4_load
set_option maxRecDepth 20000 in
theorem ggL_law_X5_load : GoodIn wsL_law wsX5_load := goodIn_r _ [320, 134, 135, 5, 136, 321, 322, 323, 324, 117, 118, 100, 103, 104, 325, 326, 327, 328, 329, 330, 331, 332, 333, 334, 101, 669, 670, 671, 672, 673, 674, 675, 676, 677, 678, 679, 680, 681, 682, 683, 684, 685, 686, 687, 688, 689] (by decide +kernel) (by decide +kernel)
set_option maxRecDepth 20000 in
theorem gL_law_X5_load : GoodIn wsL_law (wsV RL 64 RX5 yX5_load wsX5_load) := goodIn_app (goodIn_of _ (by decide +kernel)) ggL_law_X5_load
set_option maxRecDepth 20000 in
theorem ggL_law_X4_resolve : GoodIn wsL_law wsX4_resolve := goodIn_r _ [338, 20, 15, 17, 69, 70, 2, 71, 339, 340, 341, 14, 342, 28, 343, 314, 315, 27, 316, 43, 67, 68, 344, 345, 346, 347, 38, 348, 349, 350, 351, 39, 352, 353, 354, 19, 355, 292, 356, 357, 358, 359, 360, 361, 362, 363, 364, 32, 62, 63, 47, 48, 189, 190, 191, 31, 192, 174, 89, 88, 175, 193, 194, 195, 365, 366, 367, 368, 41, 369, 370, 371, 372, 40, 373, 374, 375, 376, 377, 77, 78, 79, 378, 379, 380, 381, 382, 383, 384, 385, 90, 386, 387, 388, 389, 91, 390, 391, 392, 393, 394, 395, 396, 397, 398, 399, 400, 401, 45, 402, 403, 404, 405, 406, 407, 408, 409, 410, 411, 412, 413, 414, 415, 416, 417, 418, 419, 420, 421, 422, 423, 424, 425, 426, 427, 428, 429, 430, 431, 432, 433, 434, 435, 436, 437, 438, 439, 440, 441, 442, 443, 444, 445, 446, 447, 448, 449, 450, 44, 451, 452, 453, 454, 455, 456, 457, 458, 42, 58, 59, 60, 61, 46, 459, 460, 461, 462, 463, 464, 465, 466, 467, 468, 469, 470, 665, 666, 667, 668, 690, 691, 692, 693, 694, 695, 696, 697, 698, 699, 700, 701, 702, 703, 704, 705, 706, 707, 708, 709, 710, 711, 712] (by decide +kernel) (by decide +kernel)
set_option maxRecDepth 20000 in
theorem gL_law_X4_resolve : GoodIn wsL_law (wsV RL 65 RX4 yX4_resolve wsX4_resolve) := goodIn_app (goodIn_of _ (by decide +kernel)) ggL_law_X4_resolve
set_option maxRecDepth 20000 in
theorem ggL_law_X5_resolve : GoodIn wsL_law wsX5_resolve := goodIn_r _ [474, 475, 476, 477, 5, 478, 300, 134, 135, 136, 479, 480, 481, 482, 113, 114, 115, 101, 102, 116, 112, 109, 321, 322, 323, 324, 117, 118, 100, 103, 104, 325, 326, 327, 328, 329, 330, 331, 332, 333, 334, 483, 484, 485, 486, 204, 205, 206, 207, 108, 107, 106, 110, 487, 488, 489, 490, 491, 492, 493, 494, 111, 495, 496, 497, 498, 499, 500, 501, 502, 503, 504, 505, 506, 507, 508, 509, 510, 511, 512, 513, 514, 515, 516, 517, 518, 519, 520, 521, 522, 523, 524, 525, 526, 105, 669, 670, 671, 672, 673, 674, 675, 676, 677, 678, 679, 680, 681, 682, 683, 684, 685, 686, 687, 688, 689] (by decide +kernel) (by decide +kernel)
set_option maxRecDepth 20000 in
theorem gL_law_X5_resolve : GoodIn wsL_law (wsV RL 68 RX5 yX5_resolve wsX5_resolve) := goodIn_app (goodIn_of _ (by decide +kernel)) ggL_law_X5_resolve
set_option maxRecDepth 20000 in
theorem ggL_law_X4_select : GoodIn wsL_law wsX4_select := goodIn_r _ [530, 20, 17, 15, 69, 70, 2, 71, 339, 340, 341, 14, 342, 28, 343, 314, 315, 27, 316, 43, 67, 68, 344, 345, 346, 347, 38, 348, 349, 350, 351, 39, 352, 353, 354, 19, 355, 292, 356, 357, 358, 359, 360, 361, 362, 363, 364, 32, 62, 63, 47, 48, 189, 190, 191, 31, 192, 174, 89, 88, 175, 193, 194, 195, 365, 366, 367, 368, 41, 369, 370, 371, 372, 40, 373, 374, 375, 376, 377, 77, 78, 79, 378, 379, 380, 381, 382, 383, 384, 385, 90, 386, 387, 388, 389, 91, 390, 391, 392, 393, 394, 395, 396, 397, 398, 399, 400, 401, 45, 402, 403, 404, 405, 406, 407, 408, 409, 410, 411, 412, 413, 414, 415, 416, 417, 418, 419, 420, 421, 422, 423, 424, 425, 426, 427, 428, 429, 430, 431, 432, 433, 434, 435, 436, 437, 438, 439, 440, 441, 442, 443, 444, 445, 446, 447, 448, 449, 450, 44, 451, 452, 453, 454, 455, 456, 457, 458, 42, 58, 59, 60, 61, 46, 459, 460, 461, 462, 463, 464, 465, 466, 467, 468, 469, 470, 531, 532, 533, 534, 535, 536, 537, 538, 539, 540, 541, 542, 543, 544, 545, 546, 547, 548, 549, 550, 551, 552, 553, 554, 555, 556, 557, 558, 559, 560, 561, 562, 563, 665, 666, 667, 668, 690, 691, 692, 693, 694, 695, 696, 697, 698, 699, 700, 701, 702, 703, 704, 705, 706, 707, 708, 709, 710, 711, 712] (by decide +kernel) (by decide +kernel)
