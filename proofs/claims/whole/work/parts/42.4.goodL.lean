set_option maxRecDepth 20000 in
theorem ggL_law_X7_restore : GoodIn wsL_law wsX7_restore := goodIn_r _ [502, 494, 76, 78, 138, 139, 140, 5, 141, 142, 77, 782, 783, 784, 785, 786, 787, 788, 789, 790, 791, 792, 793, 794, 795, 796, 797, 798, 799, 800] (by decide +kernel) (by decide +kernel)
set_option maxRecDepth 20000 in
theorem gL_law_X7_restore : GoodIn wsL_law (wsV RL 80 RX7 yX7_restore wsX7_restore) := goodIn_app (goodIn_of _ (by decide +kernel)) ggL_law_X7_restore
set_option maxRecDepth 20000 in
theorem ggL_law_X6_place : GoodIn wsL_law wsX6_place := goodIn_r _ [506, 15, 91, 151, 259, 268, 301, 152, 153, 154, 28, 155, 121, 205, 206, 2, 207, 507, 508, 509, 510, 51, 397, 398, 399, 400, 33, 160, 161, 162, 163, 29, 164, 118, 119, 120, 49, 122, 113, 114, 115, 50, 165, 166, 167, 168, 169, 170, 171, 32, 172, 66, 173, 67, 174, 175, 176, 177, 178, 179, 180, 181, 182, 183, 184, 185, 186, 187, 188, 189, 190, 191, 192, 193, 194, 195, 196, 197, 198, 199, 200, 401, 402, 403, 404, 405, 202, 203, 204, 511, 512, 513, 774, 775, 776, 777, 778, 779, 780, 781, 801, 802, 803, 804, 809, 810, 811, 812, 813, 814, 815] (by decide +kernel) (by decide +kernel)
set_option maxRecDepth 20000 in
theorem gL_law_X6_place : GoodIn wsL_law (wsV RL 81 RX6 yX6_place wsX6_place) := goodIn_app (goodIn_of _ (by decide +kernel)) ggL_law_X6_place
set_option maxRecDepth 20000 in
theorem ggL_law_X7_place : GoodIn wsL_law wsX7_place := goodIn_r _ [517, 212, 213, 214, 5, 215, 76, 135, 136, 137, 216, 217, 218, 219, 518, 519, 520, 521, 243, 244, 245, 246, 410, 411, 412, 413, 220, 221, 222, 223, 224, 225, 226, 227, 228, 80, 79, 229, 230, 231, 232, 233, 234, 235, 236, 237, 238, 239, 240, 241, 242, 247, 248, 249, 250, 81, 251, 252, 253, 254, 782, 783, 784, 785, 786, 787, 788, 789, 790, 791, 792, 793, 794, 795, 796, 797, 798, 799, 800] (by decide +kernel) (by decide +kernel)
set_option maxRecDepth 20000 in
theorem gL_law_X7_place : GoodIn wsL_law (wsV RL 84 RX7 yX7_place wsX7_place) := goodIn_app (goodIn_of _ (by decide +kernel)) ggL_law_X7_place
set_option maxRecDepth 20000 in
theorem ggL_law_X6_wins : GoodIn wsL_law wsX6_wins := goodIn_r _ [525, 93, 94, 2, 95, 156, 157, 158, 159, 15, 91, 92, 33, 160, 161, 162, 163, 29, 164, 118, 119, 28, 120, 121, 49, 122, 113, 114, 115, 50, 51, 165, 166, 167, 168, 169, 170, 171, 32, 172, 66, 173, 67, 174, 175, 176, 177, 178, 179, 180, 181, 182, 183, 184, 185, 186, 187, 188, 189, 190, 191, 192, 193, 194, 195, 196, 197, 198, 199, 200, 201, 202, 203, 204, 205, 206, 207, 774, 775, 776, 777, 778, 779, 780, 781, 801, 802, 803, 804, 809, 810, 811, 812, 813, 814, 815] (by decide +kernel) (by decide +kernel)
set_option maxRecDepth 20000 in
theorem gL_law_X6_wins : GoodIn wsL_law (wsV RL 85 RX6 yX6_wins wsX6_wins) := goodIn_app (goodIn_of _ (by decide +kernel)) ggL_law_X6_wins
set_option maxRecDepth 20000 in
theorem ggL_law_X7_wins : GoodIn wsL_law wsX7_wins := goodIn_r _ [529, 384, 385, 5, 386, 135, 136, 137, 220, 221, 222, 223, 224, 225, 226, 227, 228, 76, 80, 79, 229, 230, 231, 232, 233, 216, 217, 218, 219, 234, 235, 236, 237, 238, 239, 240, 241, 242, 243, 244, 245, 246, 247, 248, 249, 250, 81, 251, 252, 253, 254, 782, 783, 784, 785, 786, 787, 788, 789, 790, 791, 792, 793, 794, 795, 796, 797, 798, 799, 800] (by decide +kernel) (by decide +kernel)
set_option maxRecDepth 20000 in
theorem gL_law_X7_wins : GoodIn wsL_law (wsV RL 88 RX7 yX7_wins wsX7_wins) := goodIn_app (goodIn_of _ (by decide +kernel)) ggL_law_X7_wins
set_option maxRecDepth 20000 in
theorem ggL_law_X6_winningChoice : GoodIn wsL_law wsX6_winningChoice := goodIn_r _ [533, 15, 91, 151, 33, 29, 152, 153, 154, 28, 155, 121, 160, 161, 162, 2, 163, 164, 118, 119, 120, 49, 122, 113, 114, 115, 50, 51, 165, 166, 167, 168, 169, 170, 171, 32, 172, 66, 173, 67, 174, 175, 176, 177, 178, 179, 180, 181, 182, 183, 184, 185, 186, 187, 188, 189, 190, 191, 192, 193, 194, 195, 196, 197, 198, 199, 200, 375, 376, 377, 378, 379, 281, 282, 283, 284, 511, 512, 513, 774, 775, 776, 777, 778, 779, 780, 781, 801, 802, 803, 804, 809, 810, 811, 812, 813, 814, 815] (by decide +kernel) (by decide +kernel)
set_option maxRecDepth 20000 in
theorem gL_law_X6_winningChoice : GoodIn wsL_law (wsV RL 89 RX6 yX6_winningChoice wsX6_winningChoice) := goodIn_app (goodIn_of _ (by decide +kernel)) ggL_law_X6_winningChoice
set_option maxRecDepth 20000 in
theorem ggL_law_X7_winningChoice : GoodIn wsL_law wsX7_winningChoice := goodIn_r _ [537, 212, 213, 214, 5, 215, 76, 135, 136, 137, 444, 445, 446, 447, 216, 217, 218, 219, 224, 225, 226, 227, 228, 80, 79, 229, 230, 231, 232, 233, 234, 235, 236, 237, 238, 239, 240, 241, 242, 243, 244, 245, 246, 247, 248, 249, 250, 81, 387, 388, 389, 390, 782, 783, 784, 785, 786, 787, 788, 789, 790, 791, 792, 793, 794, 795, 796, 797, 798, 799, 800] (by decide +kernel) (by decide +kernel)
set_option maxRecDepth 20000 in
theorem gL_law_X7_winningChoice : GoodIn wsL_law (wsV RL 92 RX7 yX7_winningChoice wsX7_winningChoice) := goodIn_app (goodIn_of _ (by decide +kernel)) ggL_law_X7_winningChoice
set_option maxRecDepth 20000 in
theorem ggL_law_X6_measure : GoodIn wsL_law wsX6_measure := goodIn_r _ [541, 15, 91, 33, 93, 94, 2, 95, 152, 153, 154, 28, 155, 121, 96, 97, 98, 160, 161, 162, 163, 29, 164, 118, 119, 120, 49, 122, 113, 114, 115, 50, 51, 165, 166, 167, 168, 169, 170, 171, 32, 172, 66, 173, 67, 174, 175, 176, 177, 178, 179, 180, 181, 182, 183, 184, 185, 186, 187, 188, 189, 190, 191, 192, 193, 194, 195, 196, 197, 198, 199, 200, 201, 202, 203, 204, 542, 543, 544, 545, 774, 775, 776, 777, 778, 779, 780, 781, 801, 802, 803, 804, 809, 810, 811, 812, 813, 814, 815] (by decide +kernel) (by decide +kernel)
set_option maxRecDepth 20000 in
theorem gL_law_X6_measure : GoodIn wsL_law (wsV RL 93 RX6 yX6_measure wsX6_measure) := goodIn_app (goodIn_of _ (by decide +kernel)) ggL_law_X6_measure
set_option maxRecDepth 20000 in
theorem ggL_law_X7_measure : GoodIn wsL_law wsX7_measure := goodIn_r _ [549, 79, 238, 384, 385, 5, 386, 135, 136, 137, 212, 213, 214, 215, 76, 224, 225, 226, 227, 228, 80, 229, 230, 231, 232, 233, 216, 217, 218, 219, 234, 235, 236, 237, 239, 240, 241, 242, 243, 244, 245, 246, 247, 248, 249, 250, 81, 782, 783, 784, 785, 786, 787, 788, 789, 790, 791, 792, 793, 794, 795, 796, 797, 798, 799, 800] (by decide +kernel) (by decide +kernel)
set_option maxRecDepth 20000 in
theorem gL_law_X7_measure : GoodIn wsL_law (wsV RL 97 RX7 yX7_measure wsX7_measure) := goodIn_app (goodIn_of _ (by decide +kernel)) ggL_law_X7_measure
set_option maxRecDepth 20000 in
theorem ggL_law_X6_rounds : GoodIn wsL_law wsX6_rounds := goodIn_r _ [553, 33, 554, 93, 94, 2, 95, 160, 161, 162, 163, 29, 15, 91, 164, 118, 119, 28, 120, 121, 49, 122, 113, 114, 115, 50, 51, 165, 166, 167, 168, 169, 170, 171, 32, 172, 66, 173, 67, 174, 175, 176, 177, 178, 179, 180, 181, 182, 183, 184, 185, 186, 187, 188, 189, 190, 191, 192, 193, 194, 195, 196, 197, 198, 199, 200, 774, 775, 776, 777, 778, 779, 780, 781, 813, 814, 815, 801, 802, 803, 804, 809, 810, 811, 812] (by decide +kernel) (by decide +kernel)
set_option maxRecDepth 20000 in
theorem gL_law_X6_rounds : GoodIn wsL_law (wsV RL 98 RX6 yX6_rounds wsX6_rounds) := goodIn_app (goodIn_of _ (by decide +kernel)) ggL_law_X6_rounds
set_option maxRecDepth 20000 in
theorem ggL_law_X7_rounds : GoodIn wsL_law wsX7_rounds := goodIn_r _ [558, 229, 384, 385, 5, 386, 135, 136, 137, 224, 225, 226, 227, 228, 76, 80, 79, 230, 231, 232, 233, 216, 217, 218, 219, 234, 235, 236, 237, 238, 239, 240, 241, 242, 243, 244, 245, 246, 247, 248, 249, 250, 81, 782, 783, 784, 785, 786, 787, 788, 789, 790, 791, 792, 793, 794, 795, 796, 797, 798, 799, 800] (by decide +kernel) (by decide +kernel)
set_option maxRecDepth 20000 in
theorem gL_law_X7_rounds : GoodIn wsL_law (wsV RL 101 RX7 yX7_rounds wsX7_rounds) := goodIn_app (goodIn_of _ (by decide +kernel)) ggL_law_X7_rounds
