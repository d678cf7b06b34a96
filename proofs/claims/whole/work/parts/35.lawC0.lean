set_option maxRecDepth 20000 in
set_option maxRecDepth 20000 in
theorem ggL_law_X8_init : GoodIn wsL_law wsX8_init := goodIn_r _ [8, 9, 10, 11, 12, 13, 14, 15, 16, 17, 18, 19, 20, 21, 22, 23, 24, 25, 26, 27, 28, 29, 30, 31, 32, 33, 34, 35, 36, 37, 38, 39, 40, 41, 42, 43, 44, 45, 46, 47, 48, 49, 50, 51, 52, 53, 54, 55, 56, 57, 58, 59, 60, 61, 62, 63, 64, 65, 66, 67, 68, 69, 70, 71, 72, 73, 74, 75, 76, 77, 78, 79, 80, 81, 82, 83, 84, 85, 86, 87, 88, 89, 90, 91, 92, 93, 94, 95, 96, 97, 98, 99, 100, 101, 102, 103, 104, 105, 106, 107, 864, 865, 866, 812, 813, 814, 815, 816, 817, 818, 819, 820, 821, 822, 867, 868, 869, 870, 871, 872, 873, 874, 875, 876, 877, 878, 879, 880, 881, 882, 883, 884, 885, 886, 887, 888, 889, 890, 891, 892, 893, 894, 895, 896, 897, 898, 899, 900, 901, 902, 903, 904] (by decide +kernel) (by decide +kernel)
set_option maxRecDepth 20000 in
theorem gL_law_X8_init : GoodIn wsL_law (wsX8_init) := ggL_law_X8_init
set_option maxRecDepth 20000 in
theorem ggL_law_X9_init : GoodIn wsL_law wsX9_init := goodIn_r _ [110, 111, 10, 11, 50, 112, 113, 114, 59, 115, 116, 117, 118, 119, 120, 121, 122, 123, 124, 125, 126, 127, 128, 129, 130, 131, 132, 133, 134, 823, 824, 825, 826, 827, 828, 829, 830, 831, 832, 833, 834, 835, 836, 837, 838, 839, 840, 841, 842, 843, 844, 845, 846, 847, 848, 849, 850, 851, 852, 853, 854, 855, 856, 857, 858, 859, 860, 861, 862, 863] (by decide +kernel) (by decide +kernel)
set_option maxRecDepth 20000 in
theorem gL_law_X9_init : GoodIn wsL_law (wsX9_init) := ggL_law_X9_init
set_option maxRecDepth 20000 in
theorem ggL_law_X8_winds : GoodIn wsL_law wsX8_winds := goodIn_r _ [138, 15, 139, 140, 141, 14, 142, 143, 51, 52, 144, 145, 146, 147, 2, 148, 149, 150, 151, 152, 153, 154, 155, 156, 157, 158, 159, 46, 812, 813, 814, 815, 816, 817, 818, 819, 820, 821, 822, 864, 865, 866] (by decide +kernel) (by decide +kernel)
set_option maxRecDepth 20000 in
theorem gL_law_X8_winds : GoodIn wsL_law (wsV RL 13 RX8 yX8_winds wsX8_winds) := goodIn_app (goodIn_of _ (by decide +kernel)) ggL_law_X8_winds
set_option maxRecDepth 20000 in
theorem ggL_law_X9_winds : GoodIn wsL_law wsX9_winds := goodIn_r _ [163, 164, 165, 166, 112, 113, 167, 168, 5, 169, 170, 171, 172, 173, 174, 175, 176, 177, 178, 823, 824, 825, 826, 827, 828, 829, 830, 831, 832, 833, 834, 835, 836, 837, 838, 839, 840, 841, 842, 843, 844, 845, 846, 847, 848, 849, 850, 851, 852, 853, 854, 855, 856, 857, 858, 859, 860, 861, 862, 863] (by decide +kernel) (by decide +kernel)
set_option maxRecDepth 20000 in
theorem gL_law_X9_winds : GoodIn wsL_law (wsV RL 17 RX9 yX9_winds wsX9_winds) := goodIn_app (goodIn_of _ (by decide +kernel)) ggL_law_X9_winds
set_option maxRecDepth 20000 in
theorem ggL_law_X8_weight : GoodIn wsL_law wsX8_weight := goodIn_r _ [182, 15, 183, 184, 2, 185, 151, 147, 148, 186, 149, 150, 187, 188, 189, 14, 190, 143, 52, 51, 812, 813, 814, 815, 816, 817, 818, 819, 820, 821, 822, 864, 865, 866] (by decide +kernel) (by decide +kernel)
set_option maxRecDepth 20000 in
theorem gL_law_X8_weight : GoodIn wsL_law (wsV RL 18 RX8 yX8_weight wsX8_weight) := goodIn_app (goodIn_of _ (by decide +kernel)) ggL_law_X8_weight
set_option maxRecDepth 20000 in
theorem ggL_law_X9_weight : GoodIn wsL_law wsX9_weight := goodIn_r _ [194, 164, 195, 117, 167, 168, 5, 169, 170, 171, 172, 173, 196, 197, 198, 199, 166, 113, 112, 823, 824, 825, 826, 827, 828, 829, 830, 831, 832, 833, 834, 835, 836, 837, 838, 839, 840, 841, 842, 843, 844, 845, 846, 847, 848, 849, 850, 851, 852, 853, 854, 855, 856, 857, 858, 859, 860, 861, 862, 863] (by decide +kernel) (by decide +kernel)
set_option maxRecDepth 20000 in
theorem gL_law_X9_weight : GoodIn wsL_law (wsV RL 22 RX9 yX9_weight wsX9_weight) := goodIn_app (goodIn_of _ (by decide +kernel)) ggL_law_X9_weight
set_option maxRecDepth 20000 in
theorem ggL_law_X8_sails : GoodIn wsL_law wsX8_sails := goodIn_r _ [203, 19, 204, 205, 206, 18, 207, 57, 208, 184, 2, 185, 151, 147, 148, 152, 153, 154, 155, 156, 157, 158, 159, 46, 812, 813, 814, 815, 816, 817, 818, 819, 820, 821, 822, 867, 868, 869, 870, 871, 872, 873, 874] (by decide +kernel) (by decide +kernel)
set_option maxRecDepth 20000 in
theorem gL_law_X8_sails : GoodIn wsL_law (wsV RL 23 RX8 yX8_sails wsX8_sails) := goodIn_app (goodIn_of _ (by decide +kernel)) ggL_law_X8_sails
set_option maxRecDepth 20000 in
theorem ggL_law_X9_sails : GoodIn wsL_law wsX9_sails := goodIn_r _ [212, 164, 195, 213, 114, 167, 168, 5, 169, 174, 175, 176, 177, 178, 823, 824, 825, 826, 827, 828, 829, 830, 831, 832, 833, 834, 835, 836, 837, 838, 839, 840, 841, 842, 843, 844, 845, 846, 847, 848, 849, 850, 851, 852, 853, 854, 855, 856, 857, 858, 859, 860, 861, 862, 863] (by decide +kernel) (by decide +kernel)
set_option maxRecDepth 20000 in
theorem gL_law_X9_sails : GoodIn wsL_law (wsV RL 26 RX9 yX9_sails wsX9_sails) := goodIn_app (goodIn_of _ (by decide +kernel)) ggL_law_X9_sails
set_option maxRecDepth 20000 in
theorem ggL_law_X8_engine : GoodIn wsL_law wsX8_engine := goodIn_r _ [217, 19, 218, 219, 220, 18, 221, 222, 208, 147, 2, 148, 152, 153, 154, 155, 156, 157, 158, 159, 46, 812, 813, 814, 815, 816, 817, 818, 819, 820, 821, 822, 867, 868, 869, 870, 871, 872, 873, 874] (by decide +kernel) (by decide +kernel)
set_option maxRecDepth 20000 in
theorem gL_law_X8_engine : GoodIn wsL_law (wsV RL 27 RX8 yX8_engine wsX8_engine) := goodIn_app (goodIn_of _ (by decide +kernel)) ggL_law_X8_engine
set_option maxRecDepth 20000 in
theorem ggL_law_X9_engine : GoodIn wsL_law wsX9_engine := goodIn_r _ [226, 164, 213, 227, 167, 168, 5, 169, 174, 175, 176, 177, 178, 823, 824, 825, 826, 827, 828, 829, 830, 831, 832, 833, 834, 835, 836, 837, 838, 839, 840, 841, 842, 843, 844, 845, 846, 847, 848, 849, 850, 851, 852, 853, 854, 855, 856, 857, 858, 859, 860, 861, 862, 863] (by decide +kernel) (by decide +kernel)
set_option maxRecDepth 20000 in
theorem gL_law_X9_engine : GoodIn wsL_law (wsV RL 31 RX9 yX9_engine wsX9_engine) := goodIn_app (goodIn_of _ (by decide +kernel)) ggL_law_X9_engine
set_option maxRecDepth 20000 in
theorem ggL_law_X8_luck : GoodIn wsL_law wsX8_luck := goodIn_r _ [231, 232, 19, 15, 233, 234, 2, 235, 151, 147, 148, 186, 149, 150, 236, 237, 238, 18, 239, 58, 208, 240, 188, 189, 14, 190, 143, 52, 51, 241, 242, 243, 244, 245, 246, 247, 248, 249, 250, 251, 252, 253, 254, 60, 61, 255, 256, 257, 258, 259, 260, 261, 262, 222, 263, 264, 158, 265, 62, 63, 64, 266, 267, 268, 65, 66, 67, 269, 270, 271, 272, 273, 274, 275, 276, 57, 277, 278, 279, 280, 281, 282, 283, 284, 812, 813, 814, 815, 816, 817, 818, 819, 820, 821, 822, 867, 868, 869, 870, 871, 872, 873, 874, 864, 865, 866] (by decide +kernel) (by decide +kernel)
set_option maxRecDepth 20000 in
theorem gL_law_X8_luck : GoodIn wsL_law (wsV RL 32 RX8 yX8_luck wsX8_luck) := goodIn_app (goodIn_of _ (by decide +kernel)) ggL_law_X8_luck
set_option maxRecDepth 20000 in
theorem ggL_law_X9_luck : GoodIn wsL_law wsX9_luck := goodIn_r _ [288, 164, 289, 115, 116, 290, 291, 5, 292, 293, 294, 167, 168, 169, 170, 171, 172, 173, 295, 296, 297, 298, 165, 117, 299, 300, 196, 197, 198, 199, 166, 113, 112, 301, 302, 303, 304, 305, 306, 307, 308, 114, 227, 309, 310, 311, 312, 823, 824, 825, 826, 827, 828, 829, 830, 831, 832, 833, 834, 835, 836, 837, 838, 839, 840, 841, 842, 843, 844, 845, 846, 847, 848, 849, 850, 851, 852, 853, 854, 855, 856, 857, 858, 859, 860, 861, 862, 863] (by decide +kernel) (by decide +kernel)
set_option maxRecDepth 20000 in
theorem gL_law_X9_luck : GoodIn wsL_law (wsV RL 36 RX9 yX9_luck wsX9_luck) := goodIn_app (goodIn_of _ (by decide +kernel)) ggL_law_X9_luck
set_option maxRecDepth 20000 in
theorem ggL_law_X8_choice : GoodIn wsL_law wsX8_choice := goodIn_r _ [316, 19, 15, 233, 234, 2, 235, 151, 147, 148, 186, 149, 150, 183, 184, 185, 236, 237, 238, 18, 239, 58, 208, 240, 188, 189, 14, 190, 143, 52, 51, 241, 242, 243, 244, 245, 246, 247, 248, 249, 250, 251, 252, 253, 254, 60, 61, 255, 256, 257, 258, 259, 260, 261, 262, 222, 263, 264, 158, 265, 62, 63, 64, 266, 267, 268, 65, 66, 67, 269, 270, 271, 272, 273, 274, 275, 276, 57, 317, 318, 319, 320, 812, 813, 814, 815, 816, 817, 818, 819, 820, 821, 822, 867, 868, 869, 870, 871, 872, 873, 874, 864, 865, 866] (by decide +kernel) (by decide +kernel)
set_option maxRecDepth 20000 in
theorem gL_law_X8_choice : GoodIn wsL_law (wsV RL 37 RX8 yX8_choice wsX8_choice) := goodIn_app (goodIn_of _ (by decide +kernel)) ggL_law_X8_choice
