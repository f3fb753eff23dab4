set_option maxRecDepth 20000 in
theorem ggL_law_X7_removeArrow : GoodIn wsL_law wsX7_removeArrow := goodIn_r _ [305, 212, 213, 214, 5, 215, 76, 135, 136, 137, 243, 244, 245, 246, 216, 217, 218, 219, 138, 139, 140, 141, 142, 77, 143, 144, 145, 146, 294, 295, 296, 782, 783, 784, 785, 786, 787, 788, 789, 790, 791, 792, 793, 794, 795, 796, 797, 798, 799, 800] (by decide +kernel) (by decide +kernel)
set_option maxRecDepth 20000 in
theorem gL_law_X7_removeArrow : GoodIn wsL_law (wsV RL 33 RX7 yX7_removeArrow wsX7_removeArrow) := goodIn_app (goodIn_of _ (by decide +kernel)) ggL_law_X7_removeArrow
set_option maxRecDepth 20000 in
theorem ggL_law_X6_readArrows : GoodIn wsL_law wsX6_readArrows := goodIn_r _ [309, 25, 29, 15, 91, 19, 310, 311, 312, 24, 313, 314, 62, 315, 316, 317, 318, 319, 320, 164, 118, 119, 28, 120, 121, 49, 122, 113, 114, 115, 50, 51, 321, 322, 323, 324, 325, 326, 153, 154, 155, 206, 2, 207, 269, 270, 271, 272, 273, 274, 275, 276, 277, 278, 279, 99, 100, 101, 18, 102, 103, 57, 104, 105, 106, 107, 108, 109, 110, 14, 111, 42, 44, 112, 45, 116, 117, 774, 775, 776, 777, 778, 779, 780, 781, 801, 802, 803, 804, 807, 808, 809, 810, 811, 812, 805, 806] (by decide +kernel) (by decide +kernel)
set_option maxRecDepth 20000 in
theorem gL_law_X6_readArrows : GoodIn wsL_law (wsV RL 34 RX6 yX6_readArrows wsX6_readArrows) := goodIn_app (goodIn_of _ (by decide +kernel)) ggL_law_X6_readArrows
set_option maxRecDepth 20000 in
theorem ggL_law_X7_readArrows : GoodIn wsL_law wsX7_readArrows := goodIn_r _ [330, 331, 332, 76, 83, 333, 334, 335, 5, 336, 337, 338, 339, 340, 341, 342, 82, 343, 344, 345, 346, 135, 136, 137, 212, 213, 214, 215, 347, 348, 349, 350, 216, 217, 218, 219, 294, 295, 296, 290, 291, 292, 293, 138, 139, 140, 141, 142, 77, 143, 144, 145, 146, 782, 783, 784, 785, 786, 787, 788, 789, 790, 791, 792, 793, 794, 795, 796, 797, 798, 799, 800] (by decide +kernel) (by decide +kernel)
set_option maxRecDepth 20000 in
theorem gL_law_X7_readArrows : GoodIn wsL_law (wsV RL 38 RX7 yX7_readArrows wsX7_readArrows) := goodIn_app (goodIn_of _ (by decide +kernel)) ggL_law_X7_readArrows
set_option maxRecDepth 20000 in
theorem ggL_law_X6_turnOver : GoodIn wsL_law wsX6_turnOver := goodIn_r _ [354, 15, 91, 19, 355, 356, 357, 28, 358, 121, 50, 99, 100, 101, 18, 102, 103, 57, 104, 105, 106, 107, 108, 109, 110, 14, 111, 42, 44, 112, 113, 114, 115, 45, 116, 117, 118, 119, 120, 49, 122, 51, 165, 166, 167, 168, 156, 157, 158, 2, 159, 92, 33, 160, 161, 162, 163, 29, 164, 169, 170, 171, 32, 172, 66, 173, 67, 174, 175, 176, 177, 178, 179, 180, 181, 182, 183, 184, 185, 186, 187, 188, 189, 190, 191, 192, 193, 194, 195, 196, 197, 198, 199, 200, 201, 202, 203, 204, 205, 206, 207, 774, 775, 776, 777, 778, 779, 780, 781, 801, 802, 803, 804, 809, 810, 811, 812, 805, 806, 813, 814, 815] (by decide +kernel) (by decide +kernel)
set_option maxRecDepth 20000 in
theorem gL_law_X6_turnOver : GoodIn wsL_law (wsV RL 39 RX6 yX6_turnOver wsX6_turnOver) := goodIn_app (goodIn_of _ (by decide +kernel)) ggL_law_X6_turnOver
set_option maxRecDepth 20000 in
theorem ggL_law_X7_turnOver : GoodIn wsL_law wsX7_turnOver := goodIn_r _ [362, 76, 216, 217, 218, 5, 219, 138, 139, 140, 141, 142, 77, 143, 144, 145, 146, 220, 221, 222, 223, 224, 225, 226, 227, 228, 80, 79, 229, 230, 231, 232, 233, 234, 235, 236, 237, 238, 239, 240, 241, 242, 243, 244, 245, 246, 247, 248, 249, 250, 81, 251, 252, 253, 254, 782, 783, 784, 785, 786, 787, 788, 789, 790, 791, 792, 793, 794, 795, 796, 797, 798, 799, 800] (by decide +kernel) (by decide +kernel)
set_option maxRecDepth 20000 in
theorem gL_law_X7_turnOver : GoodIn wsL_law (wsV RL 42 RX7 yX7_turnOver wsX7_turnOver) := goodIn_app (goodIn_of _ (by decide +kernel)) ggL_law_X7_turnOver
set_option maxRecDepth 20000 in
theorem ggL_law_X6_choose : GoodIn wsL_law wsX6_choose := goodIn_r _ [366, 15, 91, 301, 19, 152, 153, 154, 28, 155, 121, 280, 281, 282, 283, 51, 284, 195, 2, 196, 99, 100, 101, 18, 102, 103, 57, 104, 105, 106, 107, 108, 109, 110, 14, 111, 42, 44, 112, 113, 114, 115, 45, 116, 117, 118, 119, 120, 49, 122, 50, 774, 775, 776, 777, 778, 779, 780, 781, 801, 802, 803, 804, 809, 810, 811, 812, 805, 806] (by decide +kernel) (by decide +kernel)
set_option maxRecDepth 20000 in
theorem gL_law_X6_choose : GoodIn wsL_law (wsV RL 43 RX6 yX6_choose wsX6_choose) := goodIn_app (goodIn_of _ (by decide +kernel)) ggL_law_X6_choose
set_option maxRecDepth 20000 in
theorem ggL_law_X7_choose : GoodIn wsL_law wsX7_choose := goodIn_r _ [370, 212, 213, 214, 5, 215, 76, 135, 136, 137, 243, 244, 245, 246, 216, 217, 218, 219, 138, 139, 140, 141, 142, 77, 143, 144, 145, 146, 782, 783, 784, 785, 786, 787, 788, 789, 790, 791, 792, 793, 794, 795, 796, 797, 798, 799, 800] (by decide +kernel) (by decide +kernel)
set_option maxRecDepth 20000 in
theorem gL_law_X7_choose : GoodIn wsL_law (wsV RL 46 RX7 yX7_choose wsX7_choose) := goodIn_app (goodIn_of _ (by decide +kernel)) ggL_law_X7_choose
set_option maxRecDepth 20000 in
theorem ggL_law_X6_chooseWell : GoodIn wsL_law wsX6_chooseWell := goodIn_r _ [374, 19, 15, 91, 92, 151, 301, 33, 29, 93, 94, 2, 95, 99, 100, 101, 18, 102, 103, 57, 104, 105, 106, 107, 108, 109, 110, 14, 111, 42, 44, 112, 113, 114, 115, 45, 116, 117, 118, 119, 28, 120, 121, 49, 122, 50, 51, 160, 161, 162, 163, 164, 165, 166, 167, 168, 169, 170, 171, 32, 172, 66, 173, 67, 174, 175, 176, 177, 178, 179, 180, 181, 182, 183, 184, 185, 186, 187, 188, 189, 190, 191, 192, 193, 194, 195, 196, 197, 198, 199, 200, 375, 376, 377, 378, 379, 281, 282, 283, 284, 153, 154, 155, 774, 775, 776, 777, 778, 779, 780, 781, 801, 802, 803, 804, 809, 810, 811, 812, 805, 806, 813, 814, 815] (by decide +kernel) (by decide +kernel)
set_option maxRecDepth 20000 in
theorem gL_law_X6_chooseWell : GoodIn wsL_law (wsV RL 47 RX6 yX6_chooseWell wsX6_chooseWell) := goodIn_app (goodIn_of _ (by decide +kernel)) ggL_law_X6_chooseWell
set_option maxRecDepth 20000 in
theorem ggL_law_X7_chooseWell : GoodIn wsL_law wsX7_chooseWell := goodIn_r _ [383, 76, 384, 385, 5, 386, 135, 136, 137, 138, 139, 140, 141, 142, 77, 224, 225, 226, 227, 228, 80, 79, 229, 230, 231, 232, 233, 216, 217, 218, 219, 234, 235, 236, 237, 238, 239, 240, 241, 242, 243, 244, 245, 246, 247, 248, 249, 250, 81, 387, 388, 389, 390, 143, 144, 145, 146, 782, 783, 784, 785, 786, 787, 788, 789, 790, 791, 792, 793, 794, 795, 796, 797, 798, 799, 800] (by decide +kernel) (by decide +kernel)
set_option maxRecDepth 20000 in
theorem gL_law_X7_chooseWell : GoodIn wsL_law (wsV RL 51 RX7 yX7_chooseWell wsX7_chooseWell) := goodIn_app (goodIn_of _ (by decide +kernel)) ggL_law_X7_chooseWell
set_option maxRecDepth 20000 in
theorem ggL_law_X6_start : GoodIn wsL_law wsX6_start := goodIn_r _ [394, 15, 91, 19, 395, 396, 152, 153, 154, 28, 155, 121, 99, 100, 101, 18, 102, 103, 57, 104, 105, 106, 107, 108, 109, 110, 14, 111, 42, 44, 112, 113, 114, 115, 45, 116, 117, 118, 119, 120, 49, 122, 50, 51, 397, 398, 399, 2, 400, 33, 160, 161, 162, 163, 29, 164, 165, 166, 167, 168, 169, 170, 171, 32, 172, 66, 173, 67, 174, 175, 176, 177, 178, 179, 180, 181, 182, 183, 184, 185, 186, 187, 188, 189, 190, 191, 192, 193, 194, 195, 196, 197, 198, 199, 200, 401, 402, 403, 404, 405, 202, 203, 204, 774, 775, 776, 777, 778, 779, 780, 781, 801, 802, 803, 804, 809, 810, 811, 812, 805, 806, 813, 814, 815] (by decide +kernel) (by decide +kernel)
set_option maxRecDepth 20000 in
theorem gL_law_X6_start : GoodIn wsL_law (wsV RL 52 RX6 yX6_start wsX6_start) := goodIn_app (goodIn_of _ (by decide +kernel)) ggL_law_X6_start
set_option maxRecDepth 20000 in
theorem ggL_law_X7_start : GoodIn wsL_law wsX7_start := goodIn_r _ [409, 76, 212, 213, 214, 5, 215, 135, 136, 137, 138, 139, 140, 141, 142, 77, 410, 411, 412, 413, 220, 221, 222, 223, 224, 225, 226, 227, 228, 80, 79, 229, 230, 231, 232, 233, 216, 217, 218, 219, 234, 235, 236, 237, 238, 239, 240, 241, 242, 243, 244, 245, 246, 247, 248, 249, 250, 81, 251, 252, 253, 254, 782, 783, 784, 785, 786, 787, 788, 789, 790, 791, 792, 793, 794, 795, 796, 797, 798, 799, 800] (by decide +kernel) (by decide +kernel)
set_option maxRecDepth 20000 in
theorem gL_law_X7_start : GoodIn wsL_law (wsV RL 55 RX7 yX7_start wsX7_start) := goodIn_app (goodIn_of _ (by decide +kernel)) ggL_law_X7_start
