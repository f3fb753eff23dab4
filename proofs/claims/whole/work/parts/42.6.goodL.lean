set_option maxRecDepth 20000 in
theorem ggL_law_X7_pivots : GoodIn wsL_law wsX7_pivots := goodIn_r _ [710, 76, 212, 213, 214, 5, 215, 135, 136, 137, 410, 411, 412, 413, 220, 221, 222, 223, 224, 225, 226, 227, 228, 80, 79, 229, 230, 231, 232, 233, 216, 217, 218, 219, 234, 235, 236, 237, 238, 239, 240, 241, 242, 243, 244, 245, 246, 247, 248, 249, 250, 81, 251, 252, 253, 254, 143, 144, 145, 146, 782, 783, 784, 785, 786, 787, 788, 789, 790, 791, 792, 793, 794, 795, 796, 797, 798, 799, 800] (by decide +kernel) (by decide +kernel)
set_option maxRecDepth 20000 in
theorem gL_law_X7_pivots : GoodIn wsL_law (wsV RL 125 RX7 yX7_pivots wsX7_pivots) := goodIn_app (goodIn_of _ (by decide +kernel)) ggL_law_X7_pivots
set_option maxRecDepth 20000 in
theorem ggL_law_X6_weakArrows : GoodIn wsL_law wsX6_weakArrows := goodIn_r _ [714, 15, 91, 29, 92, 268, 33, 152, 153, 154, 28, 155, 121, 397, 398, 399, 2, 400, 160, 161, 162, 163, 164, 118, 119, 120, 49, 122, 113, 114, 115, 50, 51, 165, 166, 167, 168, 169, 170, 171, 32, 172, 66, 173, 67, 174, 175, 176, 177, 178, 179, 180, 181, 182, 183, 184, 185, 186, 187, 188, 189, 190, 191, 192, 193, 194, 195, 196, 197, 198, 199, 200, 401, 402, 403, 404, 405, 202, 203, 204, 280, 281, 282, 283, 284, 205, 206, 207, 774, 775, 776, 777, 778, 779, 780, 781, 801, 802, 803, 804, 809, 810, 811, 812, 813, 814, 815] (by decide +kernel) (by decide +kernel)
set_option maxRecDepth 20000 in
theorem gL_law_X6_weakArrows : GoodIn wsL_law (wsV RL 126 RX6 yX6_weakArrows wsX6_weakArrows) := goodIn_app (goodIn_of _ (by decide +kernel)) ggL_law_X6_weakArrows
set_option maxRecDepth 20000 in
theorem ggL_law_X7_weakArrows : GoodIn wsL_law wsX7_weakArrows := goodIn_r _ [718, 76, 212, 213, 214, 5, 215, 135, 136, 137, 410, 411, 412, 413, 220, 221, 222, 223, 224, 225, 226, 227, 228, 80, 79, 229, 230, 231, 232, 233, 216, 217, 218, 219, 234, 235, 236, 237, 238, 239, 240, 241, 242, 243, 244, 245, 246, 247, 248, 249, 250, 81, 251, 252, 253, 254, 143, 144, 145, 146, 782, 783, 784, 785, 786, 787, 788, 789, 790, 791, 792, 793, 794, 795, 796, 797, 798, 799, 800] (by decide +kernel) (by decide +kernel)
set_option maxRecDepth 20000 in
theorem gL_law_X7_weakArrows : GoodIn wsL_law (wsV RL 129 RX7 yX7_weakArrows wsX7_weakArrows) := goodIn_app (goodIn_of _ (by decide +kernel)) ggL_law_X7_weakArrows
set_option maxRecDepth 20000 in
theorem ggL_law_X6_token : GoodIn wsL_law wsX6_token := goodIn_r _ [722, 15, 91, 395, 37, 723, 724, 152, 153, 154, 28, 155, 121, 418, 419, 420, 2, 421, 92, 151, 422, 160, 161, 162, 163, 29, 33, 164, 118, 119, 120, 49, 122, 113, 114, 115, 50, 51, 165, 166, 167, 168, 169, 170, 171, 32, 172, 66, 173, 67, 174, 175, 176, 177, 178, 179, 180, 181, 182, 183, 184, 185, 186, 187, 188, 189, 190, 191, 192, 193, 194, 195, 196, 197, 198, 199, 200, 423, 424, 425, 426, 301, 375, 376, 377, 378, 379, 281, 282, 283, 284, 427, 428, 429, 430, 431, 725, 726, 727, 36, 728, 729, 730, 731, 206, 207, 732, 433, 434, 435, 71, 733, 734, 735, 736, 737, 738, 739, 740, 741, 742, 743, 744, 745, 774, 775, 776, 777, 778, 779, 780, 781, 801, 802, 803, 804, 816, 817, 818, 819, 809, 810, 811, 812, 813, 814, 815] (by decide +kernel) (by decide +kernel)
set_option maxRecDepth 20000 in
theorem gL_law_X6_token : GoodIn wsL_law (wsV RL 130 RX6 yX6_token wsX6_token) := goodIn_app (goodIn_of _ (by decide +kernel)) ggL_law_X6_token
set_option maxRecDepth 20000 in
theorem ggL_law_X7_token : GoodIn wsL_law wsX7_token := goodIn_r _ [749, 76, 86, 135, 136, 5, 137, 440, 441, 442, 443, 216, 217, 218, 219, 444, 445, 446, 447, 224, 225, 226, 227, 228, 80, 79, 229, 230, 231, 232, 233, 234, 235, 236, 237, 238, 239, 240, 241, 242, 243, 244, 245, 246, 247, 248, 249, 250, 81, 387, 388, 389, 390, 448, 449, 450, 782, 783, 784, 785, 786, 787, 788, 789, 790, 791, 792, 793, 794, 795, 796, 797, 798, 799, 800] (by decide +kernel) (by decide +kernel)
set_option maxRecDepth 20000 in
theorem gL_law_X7_token : GoodIn wsL_law (wsV RL 133 RX7 yX7_token wsX7_token) := goodIn_app (goodIn_of _ (by decide +kernel)) ggL_law_X7_token
set_option maxRecDepth 20000 in
theorem ggL_law_X6_count : GoodIn wsL_law wsX6_count := goodIn_r _ [753, 15, 91, 92, 396, 19, 476, 25, 455, 269, 270, 271, 28, 272, 121, 51, 273, 274, 275, 276, 277, 278, 279, 649, 650, 651, 652, 49, 206, 2, 207, 285, 653, 654, 655, 656, 754, 755, 756, 757, 50, 758, 759, 760, 14, 761, 42, 127, 44, 774, 775, 776, 777, 778, 779, 780, 781, 801, 802, 803, 804, 809, 810, 811, 812, 805, 806, 807, 808] (by decide +kernel) (by decide +kernel)
set_option maxRecDepth 20000 in
theorem gL_law_X6_count : GoodIn wsL_law (wsV RL 134 RX6 yX6_count wsX6_count) := goodIn_app (goodIn_of _ (by decide +kernel)) ggL_law_X6_count
set_option maxRecDepth 20000 in
theorem ggL_law_X7_count : GoodIn wsL_law wsX7_count := goodIn_r _ [765, 76, 142, 338, 290, 291, 292, 5, 293, 216, 217, 218, 219, 294, 295, 296, 766, 767, 768, 769, 770, 771, 772, 773, 782, 783, 784, 785, 786, 787, 788, 789, 790, 791, 792, 793, 794, 795, 796, 797, 798, 799, 800] (by decide +kernel) (by decide +kernel)
set_option maxRecDepth 20000 in
theorem gL_law_X7_count : GoodIn wsL_law (wsV RL 137 RX7 yX7_count wsX7_count) := goodIn_app (goodIn_of _ (by decide +kernel)) ggL_law_X7_count
