set_option maxRecDepth 20000 in
theorem ggL_law_X4_status : GoodIn wsL_law wsX4_status := goodIn_r _ [803, 33, 103, 104, 2, 105, 106, 107, 108, 109, 845, 846, 847, 848, 849, 850, 851, 852, 853] (by decide +kernel) (by decide +kernel)
set_option maxRecDepth 20000 in
theorem gL_law_X4_status : GoodIn wsL_law (wsV RL 114 RX4 yX4_status wsX4_status) := goodIn_app (goodIn_of _ (by decide +kernel)) ggL_law_X4_status
set_option maxRecDepth 20000 in
theorem ggL_law_X5_status : GoodIn wsL_law wsX5_status := goodIn_r _ [807, 592, 85, 126, 127, 5, 128, 129, 130, 131, 132, 854, 855, 856, 857, 858, 859, 860, 861, 862, 863, 864, 865, 866, 867, 868, 869, 870, 871, 872, 873, 874, 875, 876, 877, 878, 879, 880, 881] (by decide +kernel) (by decide +kernel)
set_option maxRecDepth 20000 in
theorem gL_law_X5_status : GoodIn wsL_law (wsV RL 117 RX5 yX5_status wsX5_status) := goodIn_app (goodIn_of _ (by decide +kernel)) ggL_law_X5_status
set_option maxRecDepth 20000 in
theorem ggL_law_X4_count : GoodIn wsL_law wsX4_count := goodIn_r _ [811, 16, 103, 104, 2, 105, 812, 813, 814, 15, 815, 114, 269, 785, 786, 106, 107, 108, 109, 33, 845, 846, 847, 848, 849, 850, 851, 852, 853, 882, 883, 884, 885, 886, 887, 888, 889, 890, 891, 892, 893, 894, 895, 896, 897] (by decide +kernel) (by decide +kernel)
set_option maxRecDepth 20000 in
theorem gL_law_X4_count : GoodIn wsL_law (wsV RL 118 RX4 yX4_count wsX4_count) := goodIn_app (goodIn_of _ (by decide +kernel)) ggL_law_X4_count
set_option maxRecDepth 20000 in
theorem ggL_law_X5_count : GoodIn wsL_law wsX5_count := goodIn_r _ [819, 496, 126, 127, 5, 128, 820, 821, 822, 823, 82, 133, 134, 135, 136, 235, 236, 237, 238, 129, 130, 131, 132, 85, 854, 855, 856, 857, 858, 859, 860, 861, 862, 863, 864, 865, 866, 867, 868, 869, 870, 871, 872, 873, 874, 875, 876, 877, 878, 879, 880, 881] (by decide +kernel) (by decide +kernel)
set_option maxRecDepth 20000 in
theorem gL_law_X5_count : GoodIn wsL_law (wsV RL 121 RX5 yX5_count wsX5_count) := goodIn_app (goodIn_of _ (by decide +kernel)) ggL_law_X5_count
set_option maxRecDepth 20000 in
theorem ggL_law_X4_digest : GoodIn wsL_law wsX4_digest := goodIn_r _ [827, 828, 829, 16, 102, 830, 214, 831, 832, 833, 834, 202, 203, 771, 772, 227, 228, 688, 689, 690, 812, 813, 814, 15, 815, 114, 269, 785, 786, 845, 846, 847, 848, 849, 850, 851, 852, 853, 882, 883, 884, 885, 886, 887, 888, 889, 890, 891, 892, 893, 894, 895, 896, 897] (by decide +kernel) (by decide +kernel)
set_option maxRecDepth 20000 in
theorem gL_law_X4_digest : GoodIn wsL_law (wsV RL 122 RX4 yX4_digest wsX4_digest) := goodIn_app (goodIn_of _ (by decide +kernel)) ggL_law_X4_digest
set_option maxRecDepth 20000 in
theorem ggL_law_X5_digest : GoodIn wsL_law wsX5_digest := goodIn_r _ [838, 839, 840, 82, 820, 821, 822, 5, 823, 133, 134, 135, 136, 235, 236, 237, 238, 841, 842, 843, 844, 854, 855, 856, 857, 858, 859, 860, 861, 862, 863, 864, 865, 866, 867, 868, 869, 870, 871, 872, 873, 874, 875, 876, 877, 878, 879, 880, 881] (by decide +kernel) (by decide +kernel)
set_option maxRecDepth 20000 in
theorem gL_law_X5_digest : GoodIn wsL_law (wsV RL 126 RX5 yX5_digest wsX5_digest) := goodIn_app (goodIn_of _ (by decide +kernel)) ggL_law_X5_digest
