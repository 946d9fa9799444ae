set_option maxRecDepth 20000 in
theorem ggL_dig_0 : GoodIn wsL_law [Cond.code yX6_digest cX6_digest 4 (some .long)] := goodIn_r _ [764] (by decide +kernel) (by decide +kernel)
set_option maxRecDepth 20000 in
theorem ggL_wsX6_digest_r1 : GoodIn wsL_law wsX6_digest_r1 := goodIn_r _ [765, 766, 767, 714, 715, 5, 716, 187, 383, 188, 189, 190, 191, 192, 193, 194, 195, 87, 164, 165, 166, 167, 161, 162] (by decide +kernel) (by decide +kernel)
set_option maxRecDepth 20000 in
theorem ggL_wsX6_digest_r2 : GoodIn wsL_law wsX6_digest_r2 := goodIn_r _ [163, 717, 718, 719, 720, 467, 468, 469, 470, 97, 471, 472, 473, 474, 475, 388, 93, 94, 95, 96, 390, 391, 392, 393] (by decide +kernel) (by decide +kernel)
set_option maxRecDepth 20000 in
theorem ggL_wsX6_digest_r3 : GoodIn wsL_law wsX6_digest_r3 := goodIn_r _ [440, 441, 442, 443, 476, 477, 478, 479, 480, 481, 394, 395, 396, 397, 721, 722, 723, 724, 529, 530, 531, 532, 349, 345] (by decide +kernel) (by decide +kernel)
set_option maxRecDepth 20000 in
theorem ggL_wsX6_digest_r4 : GoodIn wsL_law wsX6_digest_r4 := goodIn_r _ [346, 347, 348, 91, 350, 351, 352, 353, 92, 725, 726, 727, 728, 768, 769, 770, 771, 525, 526, 527, 528, 533, 534, 535] (by decide +kernel) (by decide +kernel)
set_option maxRecDepth 20000 in
theorem ggL_wsX6_digest_r5 : GoodIn wsL_law wsX6_digest_r5 := goodIn_r _ [536, 537, 538, 539, 540, 541, 542, 543, 544, 500, 501, 502, 503, 436, 437, 438, 439, 291, 292, 293, 294, 295, 296, 297] (by decide +kernel) (by decide +kernel)
set_option maxRecDepth 20000 in
theorem ggL_wsX6_digest_r6 : GoodIn wsL_law wsX6_digest_r6 := goodIn_r _ [567, 568, 569, 570, 571, 572, 573, 609, 610, 611, 612] (by decide +kernel) (by decide +kernel)
set_option maxRecDepth 20000 in
theorem ggL_dig_X60 : GoodIn wsL_law wsX60 := goodIn_r _ [781, 782, 783, 784, 785, 786, 787, 788, 789, 790, 791, 792, 793, 794, 795, 796, 797, 798, 799, 800, 801] (by decide +kernel) (by decide +kernel)
theorem ggL_law_X6_digest : GoodIn wsL_law wsX6_digest := goodIn_app ggL_dig_0 (goodIn_app (goodIn_app ggL_wsX6_digest_r1 (goodIn_app ggL_wsX6_digest_r2 (goodIn_app ggL_wsX6_digest_r3 (goodIn_app ggL_wsX6_digest_r4 (goodIn_app ggL_wsX6_digest_r5 ggL_wsX6_digest_r6))))) ggL_dig_X60)
set_option maxRecDepth 20000 in
theorem gL_law_X6_digest : GoodIn wsL_law (wsV RL 128 RX6 yX6_digest wsX6_digest) := goodIn_app (goodIn_of _ (by decide +kernel)) ggL_law_X6_digest
