set_option maxRecDepth 20000 in
theorem ggL_law_X4_wanted : GoodIn wsL_law wsX4_wanted := goodIn_r _ [766, 23, 448, 445, 106, 107, 108, 2, 109, 33, 103, 104, 105, 449, 450, 451, 22, 452, 453, 59, 454, 455, 456, 457, 458, 459, 55, 56, 57, 460, 461, 58, 462, 54, 463, 464, 465, 466, 467, 468, 469, 470, 471, 472, 473, 474, 475, 476, 477, 478, 15, 479, 39, 480, 481, 482, 483, 41, 484, 485, 486, 487, 114, 488, 489, 490, 491, 40, 767, 768, 769, 770, 27, 16, 202, 542, 771, 618, 772, 548, 549, 550, 26, 551, 552, 553, 554, 555, 556, 557, 558, 559, 560, 561, 562, 563, 564, 565, 67, 566, 567, 66, 568, 569, 570, 571, 572, 573, 574, 575, 576, 577, 578, 579, 580, 581, 582, 583, 584, 64, 585, 65, 586, 587, 845, 846, 847, 848, 849, 850, 851, 852, 853, 898, 899, 900, 901, 902, 903, 904, 882, 883, 884, 885, 886, 887, 888, 889, 890, 891, 892, 893, 894, 895, 896, 897, 905, 906, 907, 908, 909, 910, 911, 912, 913, 914, 915, 916] (by decide +kernel) (by decide +kernel)
set_option maxRecDepth 20000 in
theorem gL_law_X4_wanted : GoodIn wsL_law (wsV RL 102 RX4 yX4_wanted wsX4_wanted) := goodIn_app (goodIn_of _ (by decide +kernel)) ggL_law_X4_wanted
set_option maxRecDepth 20000 in
theorem ggL_law_X5_wanted : GoodIn wsL_law wsX5_wanted := goodIn_r _ [776, 82, 87, 593, 88, 90, 129, 130, 131, 5, 132, 85, 598, 599, 600, 601, 89, 91, 92, 500, 501, 502, 503, 504, 499, 497, 498, 505, 602, 603, 604, 605, 93, 94, 95, 96, 606, 607, 608, 609, 133, 134, 135, 136, 506, 507, 508, 509, 194, 195, 196, 197, 165, 166, 167, 168, 219, 220, 221, 222, 510, 511, 512, 513, 514, 515, 516, 517, 518, 519, 520, 521, 522, 523, 524, 525, 526, 527, 528, 529, 530, 531, 532, 533, 534, 535, 536, 610, 611, 612, 613, 854, 855, 856, 857, 858, 859, 860, 861, 862, 863, 864, 865, 866, 867, 868, 869, 870, 871, 872, 873, 874, 875, 876, 877, 878, 879, 880, 881] (by decide +kernel) (by decide +kernel)
set_option maxRecDepth 20000 in
theorem gL_law_X5_wanted : GoodIn wsL_law (wsV RL 105 RX5 yX5_wanted wsX5_wanted) := goodIn_app (goodIn_of _ (by decide +kernel)) ggL_law_X5_wanted
set_option maxRecDepth 20000 in
theorem ggL_law_X4_image : GoodIn wsL_law wsX4_image := goodIn_r _ [780, 17, 16, 19, 103, 104, 2, 105, 106, 107, 108, 109, 33, 781, 782, 783, 15, 784, 44, 45, 785, 47, 381, 382, 383, 384, 786, 48, 49, 787, 378, 379, 380, 114, 39, 40, 41, 42, 43, 185, 269, 46, 845, 846, 847, 848, 849, 850, 851, 852, 853, 882, 883, 884, 885, 886, 887, 888, 889, 890, 891, 892, 893, 894, 895, 896, 897] (by decide +kernel) (by decide +kernel)
set_option maxRecDepth 20000 in
theorem gL_law_X4_image : GoodIn wsL_law (wsV RL 106 RX4 yX4_image wsX4_image) := goodIn_app (goodIn_of _ (by decide +kernel)) ggL_law_X4_image
set_option maxRecDepth 20000 in
theorem ggL_law_X5_image : GoodIn wsL_law wsX5_image := goodIn_r _ [791, 83, 82, 84, 126, 127, 5, 128, 129, 130, 131, 132, 85, 854, 855, 856, 857, 858, 859, 860, 861, 862, 863, 864, 865, 866, 867, 868, 869, 870, 871, 872, 873, 874, 875, 876, 877, 878, 879, 880, 881] (by decide +kernel) (by decide +kernel)
set_option maxRecDepth 20000 in
theorem gL_law_X5_image : GoodIn wsL_law (wsV RL 109 RX5 yX5_image wsX5_image) := goodIn_app (goodIn_of _ (by decide +kernel)) ggL_law_X5_image
set_option maxRecDepth 20000 in
theorem ggL_law_X4_from : GoodIn wsL_law wsX4_from := goodIn_r _ [795, 19, 16, 17, 103, 104, 2, 105, 106, 107, 108, 109, 33, 781, 782, 783, 15, 784, 44, 45, 785, 47, 381, 382, 383, 384, 786, 48, 49, 787, 378, 379, 380, 114, 39, 40, 41, 42, 43, 185, 269, 46, 845, 846, 847, 848, 849, 850, 851, 852, 853, 882, 883, 884, 885, 886, 887, 888, 889, 890, 891, 892, 893, 894, 895, 896, 897] (by decide +kernel) (by decide +kernel)
set_option maxRecDepth 20000 in
theorem gL_law_X4_from : GoodIn wsL_law (wsV RL 110 RX4 yX4_from wsX4_from) := goodIn_app (goodIn_of _ (by decide +kernel)) ggL_law_X4_from
set_option maxRecDepth 20000 in
theorem ggL_law_X5_from : GoodIn wsL_law wsX5_from := goodIn_r _ [799, 84, 82, 83, 126, 127, 5, 128, 129, 130, 131, 132, 85, 169, 170, 171, 172, 854, 855, 856, 857, 858, 859, 860, 861, 862, 863, 864, 865, 866, 867, 868, 869, 870, 871, 872, 873, 874, 875, 876, 877, 878, 879, 880, 881] (by decide +kernel) (by decide +kernel)
set_option maxRecDepth 20000 in
theorem gL_law_X5_from : GoodIn wsL_law (wsV RL 113 RX5 yX5_from wsX5_from) := goodIn_app (goodIn_of _ (by decide +kernel)) ggL_law_X5_from
