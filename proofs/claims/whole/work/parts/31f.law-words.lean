set_option maxRecDepth 20000 in
theorem ggL_dig_0 : GoodIn wsL_law [Cond.code yX6_digest cX6_digest 4 (some .long)] := goodIn_r _ [768] (by decide +kernel) (by decide +kernel)
set_option maxRecDepth 20000 in
theorem ggL_wsX6_digest_r1 : GoodIn wsL_law wsX6_digest_r1 := goodIn_r _ [769, 770, 771, 718, 719, 5, 720, 191, 387, 192, 193, 194, 195, 196, 197, 198, 199, 87, 168, 169, 170, 171, 165, 166] (by decide +kernel) (by decide +kernel)
set_option maxRecDepth 20000 in
theorem ggL_wsX6_digest_r2 : GoodIn wsL_law wsX6_digest_r2 := goodIn_r _ [167, 721, 722, 723, 724, 471, 472, 473, 474, 97, 475, 476, 477, 478, 479, 392, 93, 94, 95, 96, 394, 395, 396, 397] (by decide +kernel) (by decide +kernel)
set_option maxRecDepth 20000 in
theorem ggL_wsX6_digest_r3 : GoodIn wsL_law wsX6_digest_r3 := goodIn_r _ [444, 445, 446, 447, 480, 481, 482, 483, 484, 485, 398, 399, 400, 401, 725, 726, 727, 728, 533, 534, 535, 536, 353, 349] (by decide +kernel) (by decide +kernel)
set_option maxRecDepth 20000 in
theorem ggL_wsX6_digest_r4 : GoodIn wsL_law wsX6_digest_r4 := goodIn_r _ [350, 351, 352, 91, 354, 355, 356, 357, 92, 729, 730, 731, 732, 772, 773, 774, 775, 529, 530, 531, 532, 537, 538, 539] (by decide +kernel) (by decide +kernel)
set_option maxRecDepth 20000 in
theorem ggL_wsX6_digest_r5 : GoodIn wsL_law wsX6_digest_r5 := goodIn_r _ [540, 541, 542, 543, 544, 545, 546, 547, 548, 504, 505, 506, 507, 440, 441, 442, 443, 295, 296, 297, 298, 299, 300, 301] (by decide +kernel) (by decide +kernel)
set_option maxRecDepth 20000 in
theorem ggL_wsX6_digest_r6 : GoodIn wsL_law wsX6_digest_r6 := goodIn_r _ [571, 572, 573, 574, 575, 576, 577, 613, 614, 615, 616] (by decide +kernel) (by decide +kernel)
set_option maxRecDepth 20000 in
theorem ggL_dig_X60 : GoodIn wsL_law wsX60 := goodIn_r _ [785, 786, 787, 788, 789, 790, 791, 792, 793, 794, 795, 796, 797, 798, 799, 800, 801, 802, 803, 804, 805] (by decide +kernel) (by decide +kernel)
theorem ggL_law_X6_digest : GoodIn wsL_law wsX6_digest := goodIn_app ggL_dig_0 (goodIn_app (goodIn_app ggL_wsX6_digest_r1 (goodIn_app ggL_wsX6_digest_r2 (goodIn_app ggL_wsX6_digest_r3 (goodIn_app ggL_wsX6_digest_r4 (goodIn_app ggL_wsX6_digest_r5 ggL_wsX6_digest_r6))))) ggL_dig_X60)
set_option maxRecDepth 20000 in
theorem gL_law_X6_digest : GoodIn wsL_law (wsV RL 128 RX6 yX6_digest wsX6_digest) := goodIn_app (goodIn_of _ (by decide +kernel)) ggL_law_X6_digest
