set_option maxRecDepth 20000 in
theorem ggL_law_X6_forced : GoodIn wsL_law wsX6_forced := goodIn_r _ [562, 15, 91, 92, 93, 94, 2, 95, 563, 564, 565, 28, 566, 567, 568, 569, 570, 121, 206, 207, 571, 572, 573, 574, 51, 49, 774, 775, 776, 777, 778, 779, 780, 781, 801, 802, 803, 804, 809, 810, 811, 812] (by decide +kernel) (by decide +kernel)
set_option maxRecDepth 20000 in
theorem gL_law_X6_forced : GoodIn wsL_law (wsV RL 102 RX6 yX6_forced wsX6_forced) := goodIn_app (goodIn_of _ (by decide +kernel)) ggL_law_X6_forced
set_option maxRecDepth 20000 in
theorem ggL_law_X7_forced : GoodIn wsL_law wsX7_forced := goodIn_r _ [578, 384, 385, 5, 386, 135, 136, 137, 579, 580, 581, 582, 76, 583, 584, 585, 586, 587, 588, 589, 590, 216, 217, 218, 219, 782, 783, 784, 785, 786, 787, 788, 789, 790, 791, 792, 793, 794, 795, 796, 797, 798, 799, 800] (by decide +kernel) (by decide +kernel)
set_option maxRecDepth 20000 in
theorem gL_law_X7_forced : GoodIn wsL_law (wsV RL 105 RX7 yX7_forced wsX7_forced) := goodIn_app (goodIn_of _ (by decide +kernel)) ggL_law_X7_forced
set_option maxRecDepth 20000 in
theorem ggL_law_X6_rank : GoodIn wsL_law wsX6_rank := goodIn_r _ [594, 15, 91, 92, 93, 94, 2, 95, 152, 153, 154, 28, 155, 121, 563, 564, 565, 566, 567, 568, 569, 570, 206, 207, 595, 195, 196, 571, 572, 573, 574, 51, 49, 774, 775, 776, 777, 778, 779, 780, 781, 801, 802, 803, 804, 809, 810, 811, 812] (by decide +kernel) (by decide +kernel)
set_option maxRecDepth 20000 in
theorem gL_law_X6_rank : GoodIn wsL_law (wsV RL 106 RX6 yX6_rank wsX6_rank) := goodIn_app (goodIn_of _ (by decide +kernel)) ggL_law_X6_rank
set_option maxRecDepth 20000 in
theorem ggL_law_X7_rank : GoodIn wsL_law wsX7_rank := goodIn_r _ [599, 384, 385, 5, 386, 135, 136, 137, 212, 213, 214, 215, 76, 579, 580, 581, 582, 583, 584, 585, 586, 587, 588, 589, 590, 216, 217, 218, 219, 782, 783, 784, 785, 786, 787, 788, 789, 790, 791, 792, 793, 794, 795, 796, 797, 798, 799, 800] (by decide +kernel) (by decide +kernel)
set_option maxRecDepth 20000 in
theorem gL_law_X7_rank : GoodIn wsL_law (wsV RL 109 RX7 yX7_rank wsX7_rank) := goodIn_app (goodIn_of _ (by decide +kernel)) ggL_law_X7_rank
set_option maxRecDepth 20000 in
theorem ggL_law_X6_trap : GoodIn wsL_law wsX6_trap := goodIn_r _ [603, 15, 91, 93, 94, 2, 95, 563, 564, 565, 28, 566, 567, 568, 569, 570, 121, 206, 207, 604, 605, 606, 607, 51, 49, 195, 196, 774, 775, 776, 777, 778, 779, 780, 781, 801, 802, 803, 804, 809, 810, 811, 812] (by decide +kernel) (by decide +kernel)
set_option maxRecDepth 20000 in
theorem gL_law_X6_trap : GoodIn wsL_law (wsV RL 110 RX6 yX6_trap wsX6_trap) := goodIn_app (goodIn_of _ (by decide +kernel)) ggL_law_X6_trap
set_option maxRecDepth 20000 in
theorem ggL_law_X7_trap : GoodIn wsL_law wsX7_trap := goodIn_r _ [611, 76, 384, 385, 5, 386, 135, 136, 137, 579, 580, 581, 582, 216, 217, 218, 219, 782, 783, 784, 785, 786, 787, 788, 789, 790, 791, 792, 793, 794, 795, 796, 797, 798, 799, 800] (by decide +kernel) (by decide +kernel)
set_option maxRecDepth 20000 in
theorem gL_law_X7_trap : GoodIn wsL_law (wsV RL 113 RX7 yX7_trap wsX7_trap) := goodIn_app (goodIn_of _ (by decide +kernel)) ggL_law_X7_trap
set_option maxRecDepth 20000 in
theorem ggL_law_X6_judged : GoodIn wsL_law wsX6_judged := goodIn_r _ [615, 15, 91, 29, 93, 94, 2, 95, 152, 153, 154, 28, 155, 121, 616, 617, 618, 619, 92, 151, 301, 268, 164, 118, 119, 120, 49, 122, 113, 114, 115, 50, 51, 205, 206, 207, 620, 621, 622, 623, 624, 625, 626, 627, 628, 629, 630, 631, 632, 633, 634, 635, 636, 637, 638, 639, 640, 641, 642, 643, 195, 196, 644, 645, 646, 647, 648, 508, 509, 510, 649, 650, 651, 652, 653, 654, 655, 656, 657, 568, 569, 570, 658, 774, 775, 776, 777, 778, 779, 780, 781, 801, 802, 803, 804, 809, 810, 811, 812] (by decide +kernel) (by decide +kernel)
set_option maxRecDepth 20000 in
theorem gL_law_X6_judged : GoodIn wsL_law (wsV RL 114 RX6 yX6_judged wsX6_judged) := goodIn_app (goodIn_of _ (by decide +kernel)) ggL_law_X6_judged
set_option maxRecDepth 20000 in
theorem ggL_law_X7_judged : GoodIn wsL_law wsX7_judged := goodIn_r _ [662, 85, 76, 384, 385, 5, 386, 135, 136, 137, 212, 213, 214, 215, 663, 664, 665, 666, 667, 668, 669, 670, 84, 216, 217, 218, 219, 671, 672, 673, 674, 675, 676, 677, 678, 782, 783, 784, 785, 786, 787, 788, 789, 790, 791, 792, 793, 794, 795, 796, 797, 798, 799, 800] (by decide +kernel) (by decide +kernel)
set_option maxRecDepth 20000 in
theorem gL_law_X7_judged : GoodIn wsL_law (wsV RL 117 RX7 yX7_judged wsX7_judged) := goodIn_app (goodIn_of _ (by decide +kernel)) ggL_law_X7_judged
set_option maxRecDepth 20000 in
theorem ggL_law_X6_badRings : GoodIn wsL_law wsX6_badRings := goodIn_r _ [682, 29, 93, 94, 2, 95, 616, 617, 618, 619, 15, 91, 92, 151, 301, 268, 164, 118, 119, 28, 120, 121, 49, 122, 113, 114, 115, 50, 51, 205, 206, 207, 620, 621, 622, 623, 624, 625, 626, 627, 628, 629, 630, 631, 632, 633, 634, 635, 636, 637, 638, 639, 640, 641, 642, 643, 195, 196, 644, 645, 646, 647, 648, 508, 509, 510, 683, 684, 685, 686, 687, 688, 689, 690, 691, 692, 693, 694, 774, 775, 776, 777, 778, 779, 780, 781, 801, 802, 803, 804, 809, 810, 811, 812] (by decide +kernel) (by decide +kernel)
set_option maxRecDepth 20000 in
theorem gL_law_X6_badRings : GoodIn wsL_law (wsV RL 118 RX6 yX6_badRings wsX6_badRings) := goodIn_app (goodIn_of _ (by decide +kernel)) ggL_law_X6_badRings
set_option maxRecDepth 20000 in
theorem ggL_law_X7_badRings : GoodIn wsL_law wsX7_badRings := goodIn_r _ [698, 76, 384, 385, 5, 386, 135, 136, 137, 663, 664, 665, 666, 667, 668, 669, 670, 84, 216, 217, 218, 219, 671, 672, 673, 674, 85, 675, 676, 677, 678, 699, 700, 701, 702, 782, 783, 784, 785, 786, 787, 788, 789, 790, 791, 792, 793, 794, 795, 796, 797, 798, 799, 800] (by decide +kernel) (by decide +kernel)
set_option maxRecDepth 20000 in
theorem gL_law_X7_badRings : GoodIn wsL_law (wsV RL 121 RX7 yX7_badRings wsX7_badRings) := goodIn_app (goodIn_of _ (by decide +kernel)) ggL_law_X7_badRings
set_option maxRecDepth 20000 in
theorem ggL_law_X6_pivots : GoodIn wsL_law wsX6_pivots := goodIn_r _ [706, 15, 91, 29, 92, 151, 33, 152, 153, 154, 28, 155, 121, 397, 398, 399, 2, 400, 160, 161, 162, 163, 164, 118, 119, 120, 49, 122, 113, 114, 115, 50, 51, 165, 166, 167, 168, 169, 170, 171, 32, 172, 66, 173, 67, 174, 175, 176, 177, 178, 179, 180, 181, 182, 183, 184, 185, 186, 187, 188, 189, 190, 191, 192, 193, 194, 195, 196, 197, 198, 199, 200, 401, 402, 403, 404, 405, 202, 203, 204, 205, 206, 207, 774, 775, 776, 777, 778, 779, 780, 781, 801, 802, 803, 804, 809, 810, 811, 812, 813, 814, 815] (by decide +kernel) (by decide +kernel)
set_option maxRecDepth 20000 in
theorem gL_law_X6_pivots : GoodIn wsL_law (wsV RL 122 RX6 yX6_pivots wsX6_pivots) := goodIn_app (goodIn_of _ (by decide +kernel)) ggL_law_X6_pivots
