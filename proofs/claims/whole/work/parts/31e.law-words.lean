set_option maxRecDepth 20000 in
theorem ggL_law_X5_lose : GoodIn wsL_law wsX5_lose := goodIn_r _ [633, 15, 362, 363, 2, 364, 105, 106, 107, 365, 366, 367, 368, 33, 776, 777, 778, 779, 780, 781, 782, 783, 784, 822, 823, 824, 825] (by decide +kernel) (by decide +kernel)
set_option maxRecDepth 20000 in
theorem gL_law_X5_lose : GoodIn wsL_law (wsV RL 98 RX5 yX5_lose wsX5_lose) := goodIn_app (goodIn_of _ (by decide +kernel)) ggL_law_X5_lose
set_option maxRecDepth 20000 in
theorem ggL_law_X6_lose : GoodIn wsL_law wsX6_lose := goodIn_r _ [637, 83, 84, 380, 381, 5, 382, 164, 165, 166, 167, 383, 384, 385, 386, 387, 785, 786, 787, 788, 789, 790, 791, 792, 793, 794, 795, 796, 797, 798, 799, 800, 801, 802, 803, 804, 805] (by decide +kernel) (by decide +kernel)
set_option maxRecDepth 20000 in
theorem gL_law_X6_lose : GoodIn wsL_law (wsV RL 102 RX6 yX6_lose wsX6_lose) := goodIn_app (goodIn_of _ (by decide +kernel)) ggL_law_X6_lose
set_option maxRecDepth 20000 in
theorem ggL_law_X5_lay : GoodIn wsL_law wsX5_lay := goodIn_r _ [641, 15, 362, 363, 2, 364, 105, 106, 107, 642, 643, 644, 365, 366, 367, 368, 33, 645, 646, 647, 35, 648, 78, 75, 649, 650, 651, 652, 77, 776, 777, 778, 779, 780, 781, 782, 783, 784, 822, 823, 824, 825] (by decide +kernel) (by decide +kernel)
set_option maxRecDepth 20000 in
theorem gL_law_X5_lay : GoodIn wsL_law (wsV RL 103 RX5 yX5_lay wsX5_lay) := goodIn_app (goodIn_of _ (by decide +kernel)) ggL_law_X5_lay
set_option maxRecDepth 20000 in
theorem ggL_law_X6_lay : GoodIn wsL_law wsX6_lay := goodIn_r _ [656, 393, 85, 380, 381, 5, 382, 164, 165, 166, 167, 657, 658, 659, 660, 83, 84, 383, 384, 385, 386, 387, 661, 662, 663, 785, 786, 787, 788, 789, 790, 791, 792, 793, 794, 795, 796, 797, 798, 799, 800, 801, 802, 803, 804, 805] (by decide +kernel) (by decide +kernel)
set_option maxRecDepth 20000 in
theorem gL_law_X6_lay : GoodIn wsL_law (wsV RL 106 RX6 yX6_lay wsX6_lay) := goodIn_app (goodIn_of _ (by decide +kernel)) ggL_law_X6_lay
set_option maxRecDepth 20000 in
theorem ggL_law_X5_get : GoodIn wsL_law wsX5_get := goodIn_r _ [667, 668, 15, 33, 362, 363, 2, 364, 105, 106, 107, 642, 643, 644, 372, 373, 374, 35, 375, 78, 75, 776, 777, 778, 779, 780, 781, 782, 783, 784, 822, 823, 824, 825] (by decide +kernel) (by decide +kernel)
set_option maxRecDepth 20000 in
theorem gL_law_X5_get : GoodIn wsL_law (wsV RL 107 RX5 yX5_get wsX5_get) := goodIn_app (goodIn_of _ (by decide +kernel)) ggL_law_X5_get
set_option maxRecDepth 20000 in
theorem ggL_law_X6_get : GoodIn wsL_law wsX6_get := goodIn_r _ [672, 393, 673, 85, 380, 381, 5, 382, 164, 165, 166, 167, 657, 658, 659, 660, 83, 84, 383, 384, 385, 386, 387, 785, 786, 787, 788, 789, 790, 791, 792, 793, 794, 795, 796, 797, 798, 799, 800, 801, 802, 803, 804, 805] (by decide +kernel) (by decide +kernel)
set_option maxRecDepth 20000 in
theorem gL_law_X6_get : GoodIn wsL_law (wsV RL 110 RX6 yX6_get wsX6_get) := goodIn_app (goodIn_of _ (by decide +kernel)) ggL_law_X6_get
set_option maxRecDepth 20000 in
theorem ggL_law_X5_copy : GoodIn wsL_law wsX5_copy := goodIn_r _ [677, 15, 678, 679, 680, 681, 362, 363, 2, 364, 105, 106, 107, 365, 366, 367, 368, 33, 682, 683, 684, 35, 685, 78, 776, 777, 778, 779, 780, 781, 782, 783, 784, 822, 823, 824, 825] (by decide +kernel) (by decide +kernel)
set_option maxRecDepth 20000 in
theorem gL_law_X5_copy : GoodIn wsL_law (wsV RL 111 RX5 yX5_copy wsX5_copy) := goodIn_app (goodIn_of _ (by decide +kernel)) ggL_law_X5_copy
set_option maxRecDepth 20000 in
theorem ggL_law_X6_copy : GoodIn wsL_law wsX6_copy := goodIn_r _ [689, 83, 84, 86, 85, 380, 381, 5, 382, 164, 165, 166, 167, 383, 384, 385, 386, 387, 785, 786, 787, 788, 789, 790, 791, 792, 793, 794, 795, 796, 797, 798, 799, 800, 801, 802, 803, 804, 805] (by decide +kernel) (by decide +kernel)
set_option maxRecDepth 20000 in
theorem gL_law_X6_copy : GoodIn wsL_law (wsV RL 115 RX6 yX6_copy wsX6_copy) := goodIn_app (goodIn_of _ (by decide +kernel)) ggL_law_X6_copy
set_option maxRecDepth 20000 in
theorem ggL_law_X5_write : GoodIn wsL_law wsX5_write := goodIn_r _ [693, 15, 32, 13, 694, 137, 138, 139, 695, 338, 339, 102, 103, 2, 104, 105, 106, 107, 362, 363, 364, 365, 366, 367, 368, 33, 452, 453, 454, 31, 455, 66, 68, 69, 70, 71, 456, 311, 312, 21, 313, 47, 457, 112, 113, 114, 458, 459, 460, 461, 462, 433, 434, 435, 119, 120, 121, 122, 463, 464, 465, 466, 67, 490, 491, 492, 493, 645, 646, 647, 35, 648, 78, 75, 649, 650, 651, 652, 77, 776, 777, 778, 779, 780, 781, 782, 783, 784, 822, 823, 824, 825, 816, 817, 818, 819, 820, 821, 810] (by decide +kernel) (by decide +kernel)
set_option maxRecDepth 20000 in
theorem gL_law_X5_write : GoodIn wsL_law (wsV RL 116 RX5 yX5_write wsX5_write) := goodIn_app (goodIn_of _ (by decide +kernel)) ggL_law_X5_write
set_option maxRecDepth 20000 in
theorem ggL_law_X6_write : GoodIn wsL_law wsX6_write := goodIn_r _ [699, 499, 83, 84, 479, 85, 96, 161, 162, 5, 163, 164, 165, 166, 167, 380, 381, 382, 383, 384, 385, 386, 387, 475, 476, 477, 478, 97, 392, 93, 94, 95, 394, 395, 396, 397, 444, 445, 446, 447, 87, 196, 197, 198, 199, 168, 169, 170, 171, 480, 481, 482, 483, 484, 485, 398, 399, 400, 401, 575, 576, 577, 661, 662, 663, 785, 786, 787, 788, 789, 790, 791, 792, 793, 794, 795, 796, 797, 798, 799, 800, 801, 802, 803, 804, 805] (by decide +kernel) (by decide +kernel)
set_option maxRecDepth 20000 in
theorem gL_law_X6_write : GoodIn wsL_law (wsV RL 119 RX6 yX6_write wsX6_write) := goodIn_app (goodIn_of _ (by decide +kernel)) ggL_law_X6_write
set_option maxRecDepth 20000 in
theorem ggL_law_X5_count : GoodIn wsL_law wsX5_count := goodIn_r _ [703, 13, 19, 33, 145, 146, 147, 21, 148, 47, 149, 150, 151, 152, 153, 154, 155, 704, 705, 706, 2, 707, 32, 452, 453, 454, 31, 455, 66, 68, 69, 70, 71, 456, 311, 312, 313, 457, 112, 113, 114, 458, 459, 460, 461, 338, 138, 339, 462, 433, 434, 435, 119, 120, 121, 122, 463, 464, 465, 466, 67, 106, 107, 708, 709, 710, 711, 27, 306, 307, 308, 26, 309, 53, 54, 57, 310, 314, 58, 59, 60, 61, 315, 271, 272, 273, 316, 317, 318, 319, 55, 320, 321, 322, 323, 56, 324, 325, 326, 327, 328, 329, 330, 331, 332, 333, 334, 335, 336, 137, 139, 337, 712, 713, 714, 715, 224, 716, 776, 777, 778, 779, 780, 781, 782, 783, 784, 806, 807, 808, 809, 810, 816, 817, 818, 819, 820, 821, 811, 812, 813, 814, 815] (by decide +kernel) (by decide +kernel)
set_option maxRecDepth 20000 in
theorem gL_law_X5_count : GoodIn wsL_law (wsV RL 120 RX5 yX5_count wsX5_count) := goodIn_app (goodIn_of _ (by decide +kernel)) ggL_law_X5_count
set_option maxRecDepth 20000 in
theorem ggL_law_X6_count : GoodIn wsL_law wsX6_count := goodIn_r _ [720, 191, 387, 192, 193, 194, 5, 195, 196, 197, 198, 199, 87, 168, 169, 170, 171, 165, 166, 167, 721, 722, 723, 724, 471, 472, 473, 474, 97, 475, 476, 477, 478, 479, 392, 93, 94, 95, 96, 394, 395, 396, 397, 444, 445, 446, 447, 480, 481, 482, 483, 484, 485, 398, 399, 400, 401, 725, 726, 727, 728, 533, 534, 535, 536, 353, 349, 350, 351, 352, 91, 354, 355, 356, 357, 92, 729, 730, 731, 732, 785, 786, 787, 788, 789, 790, 791, 792, 793, 794, 795, 796, 797, 798, 799, 800, 801, 802, 803, 804, 805] (by decide +kernel) (by decide +kernel)
set_option maxRecDepth 20000 in
theorem gL_law_X6_count : GoodIn wsL_law (wsV RL 123 RX6 yX6_count wsX6_count) := goodIn_app (goodIn_of _ (by decide +kernel)) ggL_law_X6_count
set_option maxRecDepth 20000 in
theorem ggL_law_X5_digest : GoodIn wsL_law wsX5_digest := goodIn_r _ [736, 737, 738, 739, 701, 702, 2, 703, 13, 19, 33, 145, 146, 147, 21, 148, 47, 149, 150, 151, 152, 153, 154, 155, 704, 705, 706, 707, 32, 452, 453, 454, 31, 455, 66, 68, 69, 70, 71, 456, 311, 312, 313, 457, 112, 113, 114, 458, 459, 460, 461, 338, 138, 339, 462, 433, 434, 435, 119, 120, 121, 122, 463, 464, 465, 466, 67, 106, 107, 708, 709, 710, 711, 27, 306, 307, 308, 26, 309, 53, 54, 57, 310, 314, 58, 59, 60, 61, 315, 271, 272, 273, 316, 317, 318, 319, 55, 320, 321, 322, 323, 56, 324, 325, 326, 327, 328, 329, 330, 331, 332, 333, 334, 335, 336, 137, 139, 337, 712, 713, 714, 715, 224, 716, 740, 741, 742, 743, 744, 449, 450, 451, 102, 103, 104, 105, 745, 509, 510, 511, 23, 28, 512, 513, 514, 515, 516, 237, 238, 239, 240, 127, 517, 518, 519, 520, 521, 522, 523, 524, 746, 487, 488, 489, 490, 491, 492, 493, 747, 748, 749, 750, 751, 416, 417, 418, 108, 109, 110, 419, 752, 425, 426, 427, 428, 429, 430, 431, 432, 753, 550, 551, 552, 340, 754, 579, 580, 581, 582, 583, 584, 585, 586, 587, 588, 589, 590, 591, 755, 756, 757, 758, 759, 558, 559, 560, 561, 760, 761, 762, 763, 764, 597, 598, 599, 600, 601, 602, 603, 604, 605, 606, 607, 608, 286, 287, 288, 289, 776, 777, 778, 779, 780, 781, 782, 783, 784, 806, 807, 808, 809, 810, 816, 817, 818, 819, 820, 821, 811, 812, 813, 814, 815] (by decide +kernel) (by decide +kernel)
set_option maxRecDepth 20000 in
theorem gL_law_X5_digest : GoodIn wsL_law (wsV RL 124 RX5 yX5_digest wsX5_digest) := goodIn_app (goodIn_of _ (by decide +kernel)) ggL_law_X5_digest
