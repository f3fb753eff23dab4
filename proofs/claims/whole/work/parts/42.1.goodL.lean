set_option maxRecDepth 20000 in
theorem ggL_law_X6_init : GoodIn wsL_law wsX6_init := goodIn_r _ [8, 9, 10, 11, 12, 13, 14, 15, 16, 17, 18, 19, 20, 21, 22, 23, 24, 25, 26, 27, 28, 29, 30, 31, 32, 33, 34, 35, 36, 37, 38, 39, 40, 41, 42, 43, 44, 45, 46, 47, 48, 49, 50, 51, 52, 53, 54, 55, 56, 57, 58, 59, 60, 61, 62, 63, 64, 65, 66, 67, 68, 69, 70, 71, 801, 802, 803, 804, 774, 775, 776, 777, 778, 779, 780, 781, 805, 806, 807, 808, 809, 810, 811, 812, 813, 814, 815, 816, 817, 818, 819] (by decide +kernel) (by decide +kernel)
set_option maxRecDepth 20000 in
theorem gL_law_X6_init : GoodIn wsL_law (wsX6_init) := ggL_law_X6_init
set_option maxRecDepth 20000 in
theorem ggL_law_X7_init : GoodIn wsL_law wsX7_init := goodIn_r _ [74, 75, 10, 11, 43, 76, 77, 78, 79, 80, 81, 61, 82, 83, 84, 85, 86, 782, 783, 784, 785, 786, 787, 788, 789, 790, 791, 792, 793, 794, 795, 796, 797, 798, 799, 800] (by decide +kernel) (by decide +kernel)
set_option maxRecDepth 20000 in
theorem gL_law_X7_init : GoodIn wsL_law (wsX7_init) := ggL_law_X7_init
set_option maxRecDepth 20000 in
theorem ggL_law_X6_addPlace : GoodIn wsL_law wsX6_addPlace := goodIn_r _ [90, 15, 91, 92, 19, 93, 94, 2, 95, 96, 97, 98, 99, 100, 101, 18, 102, 103, 57, 104, 105, 106, 107, 108, 109, 110, 14, 111, 42, 44, 112, 113, 114, 115, 45, 116, 117, 118, 119, 28, 120, 121, 49, 122, 50, 51, 123, 124, 125, 126, 127, 128, 129, 130, 774, 775, 776, 777, 778, 779, 780, 781, 801, 802, 803, 804, 809, 810, 811, 812, 805, 806] (by decide +kernel) (by decide +kernel)
set_option maxRecDepth 20000 in
theorem gL_law_X6_addPlace : GoodIn wsL_law (wsV RL 13 RX6 yX6_addPlace wsX6_addPlace) := goodIn_app (goodIn_of _ (by decide +kernel)) ggL_law_X6_addPlace
set_option maxRecDepth 20000 in
theorem ggL_law_X7_addPlace : GoodIn wsL_law wsX7_addPlace := goodIn_r _ [134, 76, 135, 136, 5, 137, 138, 139, 140, 141, 142, 77, 143, 144, 145, 146, 782, 783, 784, 785, 786, 787, 788, 789, 790, 791, 792, 793, 794, 795, 796, 797, 798, 799, 800] (by decide +kernel) (by decide +kernel)
set_option maxRecDepth 20000 in
theorem gL_law_X7_addPlace : GoodIn wsL_law (wsV RL 17 RX7 yX7_addPlace wsX7_addPlace) := goodIn_app (goodIn_of _ (by decide +kernel)) ggL_law_X7_addPlace
set_option maxRecDepth 20000 in
theorem ggL_law_X6_setOwner : GoodIn wsL_law wsX6_setOwner := goodIn_r _ [150, 15, 91, 151, 19, 152, 153, 154, 28, 155, 121, 93, 94, 2, 95, 99, 100, 101, 18, 102, 103, 57, 104, 105, 106, 107, 108, 109, 110, 14, 111, 42, 44, 112, 113, 114, 115, 45, 116, 117, 118, 119, 120, 49, 122, 50, 51, 156, 157, 158, 159, 92, 33, 160, 161, 162, 163, 29, 164, 165, 166, 167, 168, 169, 170, 171, 32, 172, 66, 173, 67, 174, 175, 176, 177, 178, 179, 180, 181, 182, 183, 184, 185, 186, 187, 188, 189, 190, 191, 192, 193, 194, 195, 196, 197, 198, 199, 200, 201, 202, 203, 204, 205, 206, 207, 774, 775, 776, 777, 778, 779, 780, 781, 801, 802, 803, 804, 809, 810, 811, 812, 805, 806, 813, 814, 815] (by decide +kernel) (by decide +kernel)
set_option maxRecDepth 20000 in
theorem gL_law_X6_setOwner : GoodIn wsL_law (wsV RL 18 RX6 yX6_setOwner wsX6_setOwner) := goodIn_app (goodIn_of _ (by decide +kernel)) ggL_law_X6_setOwner
set_option maxRecDepth 20000 in
theorem ggL_law_X7_setOwner : GoodIn wsL_law wsX7_setOwner := goodIn_r _ [211, 212, 213, 214, 5, 215, 76, 135, 136, 137, 216, 217, 218, 219, 138, 139, 140, 141, 142, 77, 143, 144, 145, 146, 220, 221, 222, 223, 224, 225, 226, 227, 228, 80, 79, 229, 230, 231, 232, 233, 234, 235, 236, 237, 238, 239, 240, 241, 242, 243, 244, 245, 246, 247, 248, 249, 250, 81, 251, 252, 253, 254, 782, 783, 784, 785, 786, 787, 788, 789, 790, 791, 792, 793, 794, 795, 796, 797, 798, 799, 800] (by decide +kernel) (by decide +kernel)
set_option maxRecDepth 20000 in
theorem gL_law_X7_setOwner : GoodIn wsL_law (wsV RL 21 RX7 yX7_setOwner wsX7_setOwner) := goodIn_app (goodIn_of _ (by decide +kernel)) ggL_law_X7_setOwner
set_option maxRecDepth 20000 in
theorem ggL_law_X6_setColour : GoodIn wsL_law wsX6_setColour := goodIn_r _ [258, 15, 91, 259, 19, 152, 153, 154, 28, 155, 121, 96, 97, 2, 98, 99, 100, 101, 18, 102, 103, 57, 104, 105, 106, 107, 108, 109, 110, 14, 111, 42, 44, 112, 113, 114, 115, 45, 116, 117, 118, 119, 120, 49, 122, 50, 51, 774, 775, 776, 777, 778, 779, 780, 781, 801, 802, 803, 804, 809, 810, 811, 812, 805, 806] (by decide +kernel) (by decide +kernel)
set_option maxRecDepth 20000 in
theorem gL_law_X6_setColour : GoodIn wsL_law (wsV RL 22 RX6 yX6_setColour wsX6_setColour) := goodIn_app (goodIn_of _ (by decide +kernel)) ggL_law_X6_setColour
set_option maxRecDepth 20000 in
theorem ggL_law_X7_setColour : GoodIn wsL_law wsX7_setColour := goodIn_r _ [263, 212, 213, 214, 5, 215, 76, 135, 136, 137, 216, 217, 218, 219, 138, 139, 140, 141, 142, 77, 143, 144, 145, 146, 782, 783, 784, 785, 786, 787, 788, 789, 790, 791, 792, 793, 794, 795, 796, 797, 798, 799, 800] (by decide +kernel) (by decide +kernel)
set_option maxRecDepth 20000 in
theorem gL_law_X7_setColour : GoodIn wsL_law (wsV RL 25 RX7 yX7_setColour wsX7_setColour) := goodIn_app (goodIn_of _ (by decide +kernel)) ggL_law_X7_setColour
set_option maxRecDepth 20000 in
theorem ggL_law_X6_addArrow : GoodIn wsL_law wsX6_addArrow := goodIn_r _ [267, 15, 91, 19, 268, 152, 153, 154, 28, 155, 121, 269, 270, 271, 272, 51, 273, 274, 275, 276, 277, 278, 279, 280, 281, 282, 283, 284, 195, 2, 196, 99, 100, 101, 18, 102, 103, 57, 104, 105, 106, 107, 108, 109, 110, 14, 111, 42, 44, 112, 113, 114, 115, 45, 116, 117, 118, 119, 120, 49, 122, 50, 205, 206, 207, 285, 774, 775, 776, 777, 778, 779, 780, 781, 801, 802, 803, 804, 809, 810, 811, 812, 805, 806] (by decide +kernel) (by decide +kernel)
set_option maxRecDepth 20000 in
theorem gL_law_X6_addArrow : GoodIn wsL_law (wsV RL 26 RX6 yX6_addArrow wsX6_addArrow) := goodIn_app (goodIn_of _ (by decide +kernel)) ggL_law_X6_addArrow
set_option maxRecDepth 20000 in
theorem ggL_law_X7_addArrow : GoodIn wsL_law wsX7_addArrow := goodIn_r _ [289, 212, 213, 214, 5, 215, 76, 135, 136, 137, 243, 244, 245, 246, 216, 217, 218, 219, 290, 291, 292, 293, 294, 295, 296, 138, 139, 140, 141, 142, 77, 143, 144, 145, 146, 782, 783, 784, 785, 786, 787, 788, 789, 790, 791, 792, 793, 794, 795, 796, 797, 798, 799, 800] (by decide +kernel) (by decide +kernel)
set_option maxRecDepth 20000 in
theorem gL_law_X7_addArrow : GoodIn wsL_law (wsV RL 29 RX7 yX7_addArrow wsX7_addArrow) := goodIn_app (goodIn_of _ (by decide +kernel)) ggL_law_X7_addArrow
set_option maxRecDepth 20000 in
theorem ggL_law_X6_removeArrow : GoodIn wsL_law wsX6_removeArrow := goodIn_r _ [300, 15, 91, 19, 268, 301, 152, 153, 154, 28, 155, 121, 280, 281, 282, 283, 51, 284, 195, 2, 196, 99, 100, 101, 18, 102, 103, 57, 104, 105, 106, 107, 108, 109, 110, 14, 111, 42, 44, 112, 113, 114, 115, 45, 116, 117, 118, 119, 120, 49, 122, 50, 205, 206, 207, 285, 274, 275, 276, 277, 278, 279, 774, 775, 776, 777, 778, 779, 780, 781, 801, 802, 803, 804, 809, 810, 811, 812, 805, 806] (by decide +kernel) (by decide +kernel)
set_option maxRecDepth 20000 in
theorem gL_law_X6_removeArrow : GoodIn wsL_law (wsV RL 30 RX6 yX6_removeArrow wsX6_removeArrow) := goodIn_app (goodIn_of _ (by decide +kernel)) ggL_law_X6_removeArrow
