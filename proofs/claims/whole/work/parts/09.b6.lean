set_option maxRecDepth 20000 in
theorem ggL_law_X4_mends : GoodIn wsL_law wsX4_mends := goodIn_r _ [667, 16, 27, 145, 146, 147, 15, 148, 114, 106, 107, 108, 2, 109, 33, 103, 104, 105, 650, 651, 652, 26, 653, 66, 568, 654, 655, 549, 550, 551, 552, 553, 554, 555, 556, 557, 558, 559, 560, 561, 562, 563, 564, 565, 67, 566, 567, 569, 570, 571, 572, 573, 574, 575, 576, 577, 578, 579, 580, 581, 582, 583, 584, 64, 585, 65, 586, 464, 465, 22, 466, 59, 467, 468, 54, 587, 457, 458, 459, 55, 56, 57, 460, 461, 58, 462, 463, 469, 470, 471, 472, 473, 474, 475, 476, 477, 478, 479, 39, 480, 481, 482, 483, 41, 484, 485, 486, 487, 488, 489, 490, 491, 40, 668, 669, 670, 671, 102, 672, 673, 674, 675, 149, 150, 151, 152, 43, 153, 154, 155, 156, 845, 846, 847, 848, 849, 850, 851, 852, 853, 882, 883, 884, 885, 886, 887, 888, 889, 890, 891, 892, 893, 894, 895, 896, 897, 905, 906, 907, 908, 909, 910, 911, 912, 913, 914, 915, 916, 898, 899, 900, 901, 902, 903, 904] (by decide +kernel) (by decide +kernel)
set_option maxRecDepth 20000 in
theorem gL_law_X4_mends : GoodIn wsL_law (wsV RL 78 RX4 yX4_mends wsX4_mends) := goodIn_app (goodIn_of _ (by decide +kernel)) ggL_law_X4_mends
set_option maxRecDepth 20000 in
theorem ggL_law_X5_mends : GoodIn wsL_law wsX5_mends := goodIn_r _ [679, 161, 162, 163, 5, 164, 133, 134, 135, 136, 82, 126, 127, 128, 129, 130, 131, 132, 85, 660, 661, 662, 663, 87, 593, 598, 599, 600, 601, 88, 89, 90, 91, 92, 500, 501, 502, 503, 504, 499, 497, 498, 505, 602, 603, 604, 605, 93, 94, 95, 96, 606, 607, 608, 609, 506, 507, 508, 509, 194, 195, 196, 197, 165, 166, 167, 168, 219, 220, 221, 222, 510, 511, 512, 513, 514, 515, 516, 517, 518, 519, 520, 521, 522, 523, 524, 525, 526, 527, 528, 529, 530, 531, 532, 533, 534, 535, 536, 610, 611, 612, 613, 680, 681, 682, 683, 173, 174, 175, 176, 854, 855, 856, 857, 858, 859, 860, 861, 862, 863, 864, 865, 866, 867, 868, 869, 870, 871, 872, 873, 874, 875, 876, 877, 878, 879, 880, 881] (by decide +kernel) (by decide +kernel)
set_option maxRecDepth 20000 in
theorem gL_law_X5_mends : GoodIn wsL_law (wsV RL 81 RX5 yX5_mends wsX5_mends) := goodIn_app (goodIn_of _ (by decide +kernel)) ggL_law_X5_mends
set_option maxRecDepth 20000 in
theorem ggL_law_X4_buyer : GoodIn wsL_law wsX4_buyer := goodIn_r _ [687, 16, 688, 689, 690, 145, 146, 147, 15, 148, 114, 103, 104, 2, 105, 106, 107, 108, 109, 33, 845, 846, 847, 848, 849, 850, 851, 852, 853, 882, 883, 884, 885, 886, 887, 888, 889, 890, 891, 892, 893, 894, 895, 896, 897] (by decide +kernel) (by decide +kernel)
set_option maxRecDepth 20000 in
theorem gL_law_X4_buyer : GoodIn wsL_law (wsV RL 82 RX4 yX4_buyer wsX4_buyer) := goodIn_app (goodIn_of _ (by decide +kernel)) ggL_law_X4_buyer
set_option maxRecDepth 20000 in
theorem ggL_law_X5_buyer : GoodIn wsL_law wsX5_buyer := goodIn_r _ [694, 695, 82, 161, 162, 163, 5, 164, 133, 134, 135, 136, 126, 127, 128, 129, 130, 131, 132, 85, 137, 138, 139, 140, 854, 855, 856, 857, 858, 859, 860, 861, 862, 863, 864, 865, 866, 867, 868, 869, 870, 871, 872, 873, 874, 875, 876, 877, 878, 879, 880, 881] (by decide +kernel) (by decide +kernel)
set_option maxRecDepth 20000 in
theorem gL_law_X5_buyer : GoodIn wsL_law (wsV RL 85 RX5 yX5_buyer wsX5_buyer) := goodIn_app (goodIn_of _ (by decide +kernel)) ggL_law_X5_buyer
set_option maxRecDepth 20000 in
theorem ggL_law_X4_leave : GoodIn wsL_law wsX4_leave := goodIn_r _ [699, 16, 688, 845, 846, 847, 848, 849, 850, 851, 852, 853, 882, 883, 884, 885, 886, 887, 888, 889, 890, 891, 892, 893, 894, 895, 896, 897] (by decide +kernel) (by decide +kernel)
set_option maxRecDepth 20000 in
theorem gL_law_X4_leave : GoodIn wsL_law (wsV RL 86 RX4 yX4_leave wsX4_leave) := goodIn_app (goodIn_of _ (by decide +kernel)) ggL_law_X4_leave
set_option maxRecDepth 20000 in
theorem ggL_law_X5_leave : GoodIn wsL_law wsX5_leave := goodIn_r _ [703, 82, 854, 855, 856, 857, 858, 859, 860, 861, 862, 863, 864, 865, 866, 867, 868, 869, 870, 871, 872, 873, 874, 875, 876, 877, 878, 879, 880, 881] (by decide +kernel) (by decide +kernel)
set_option maxRecDepth 20000 in
theorem gL_law_X5_leave : GoodIn wsL_law (wsV RL 89 RX5 yX5_leave wsX5_leave) := goodIn_app (goodIn_of _ (by decide +kernel)) ggL_law_X5_leave
