set_option maxRecDepth 20000 in
theorem ggL_law_X9_choice : GoodIn wsL_law wsX9_choice := goodIn_r _ [324, 164, 195, 165, 308, 290, 291, 5, 292, 293, 294, 167, 168, 169, 170, 171, 172, 173, 295, 296, 297, 298, 115, 116, 117, 299, 300, 196, 197, 198, 199, 166, 113, 112, 301, 302, 303, 304, 305, 306, 307, 114, 227, 309, 310, 311, 312, 823, 824, 825, 826, 827, 828, 829, 830, 831, 832, 833, 834, 835, 836, 837, 838, 839, 840, 841, 842, 843, 844, 845, 846, 847, 848, 849, 850, 851, 852, 853, 854, 855, 856, 857, 858, 859, 860, 861, 862, 863] (by decide +kernel) (by decide +kernel)
set_option maxRecDepth 20000 in
theorem gL_law_X9_choice : GoodIn wsL_law (wsV RL 40 RX9 yX9_choice wsX9_choice) := goodIn_app (goodIn_of _ (by decide +kernel)) ggL_law_X9_choice
set_option maxRecDepth 20000 in
theorem ggL_law_X8_promise : GoodIn wsL_law wsX8_promise := goodIn_r _ [328, 19, 15, 233, 234, 2, 235, 151, 147, 148, 186, 149, 150, 236, 237, 238, 18, 239, 58, 208, 240, 188, 189, 14, 190, 143, 52, 51, 329, 330, 331, 332, 333, 334, 242, 243, 244, 245, 246, 247, 248, 249, 250, 251, 252, 253, 254, 60, 61, 255, 256, 257, 258, 259, 260, 261, 262, 222, 263, 264, 158, 265, 62, 63, 64, 266, 267, 268, 65, 66, 67, 269, 270, 271, 272, 273, 274, 275, 276, 57, 335, 278, 279, 280, 812, 813, 814, 815, 816, 817, 818, 819, 820, 821, 822, 867, 868, 869, 870, 871, 872, 873, 874, 864, 865, 866] (by decide +kernel) (by decide +kernel)
set_option maxRecDepth 20000 in
theorem gL_law_X8_promise : GoodIn wsL_law (wsV RL 41 RX8 yX8_promise wsX8_promise) := goodIn_app (goodIn_of _ (by decide +kernel)) ggL_law_X8_promise
set_option maxRecDepth 20000 in
theorem ggL_law_X9_promise : GoodIn wsL_law wsX9_promise := goodIn_r _ [339, 164, 165, 115, 290, 291, 5, 292, 293, 294, 167, 168, 169, 170, 171, 172, 173, 295, 296, 297, 298, 116, 117, 299, 300, 196, 197, 198, 199, 166, 113, 112, 301, 302, 303, 304, 305, 306, 307, 308, 114, 227, 309, 310, 311, 312, 823, 824, 825, 826, 827, 828, 829, 830, 831, 832, 833, 834, 835, 836, 837, 838, 839, 840, 841, 842, 843, 844, 845, 846, 847, 848, 849, 850, 851, 852, 853, 854, 855, 856, 857, 858, 859, 860, 861, 862, 863] (by decide +kernel) (by decide +kernel)
set_option maxRecDepth 20000 in
theorem gL_law_X9_promise : GoodIn wsL_law (wsV RL 45 RX9 yX9_promise wsX9_promise) := goodIn_app (goodIn_of _ (by decide +kernel)) ggL_law_X9_promise
set_option maxRecDepth 20000 in
theorem ggL_law_X8_load : GoodIn wsL_law wsX8_load := goodIn_r _ [343, 23, 344, 345, 346, 22, 347, 348, 71, 72, 147, 2, 148, 152, 153, 154, 155, 156, 157, 158, 159, 46, 812, 813, 814, 815, 816, 817, 818, 819, 820, 821, 822, 875, 876, 877, 878, 879, 880, 881, 882] (by decide +kernel) (by decide +kernel)
set_option maxRecDepth 20000 in
theorem gL_law_X8_load : GoodIn wsL_law (wsV RL 46 RX8 yX8_load wsX8_load) := goodIn_app (goodIn_of _ (by decide +kernel)) ggL_law_X8_load
set_option maxRecDepth 20000 in
theorem ggL_law_X9_load : GoodIn wsL_law wsX9_load := goodIn_r _ [352, 164, 353, 354, 355, 118, 119, 167, 168, 5, 169, 174, 175, 176, 177, 178, 823, 824, 825, 826, 827, 828, 829, 830, 831, 832, 833, 834, 835, 836, 837, 838, 839, 840, 841, 842, 843, 844, 845, 846, 847, 848, 849, 850, 851, 852, 853, 854, 855, 856, 857, 858, 859, 860, 861, 862, 863] (by decide +kernel) (by decide +kernel)
set_option maxRecDepth 20000 in
theorem gL_law_X9_load : GoodIn wsL_law (wsV RL 49 RX9 yX9_load wsX9_load) := goodIn_app (goodIn_of _ (by decide +kernel)) ggL_law_X9_load
set_option maxRecDepth 20000 in
theorem ggL_law_X8_apart : GoodIn wsL_law wsX8_apart := goodIn_r _ [359, 23, 360, 361, 362, 22, 363, 364, 365, 366, 367, 348, 147, 2, 148, 368, 369, 370, 371, 73, 152, 153, 154, 155, 156, 157, 158, 159, 46, 812, 813, 814, 815, 816, 817, 818, 819, 820, 821, 822, 875, 876, 877, 878, 879, 880, 881, 882] (by decide +kernel) (by decide +kernel)
set_option maxRecDepth 20000 in
theorem gL_law_X8_apart : GoodIn wsL_law (wsV RL 50 RX8 yX8_apart wsX8_apart) := goodIn_app (goodIn_of _ (by decide +kernel)) ggL_law_X8_apart
set_option maxRecDepth 20000 in
theorem ggL_law_X9_apart : GoodIn wsL_law wsX9_apart := goodIn_r _ [375, 164, 120, 376, 377, 378, 5, 379, 355, 167, 168, 169, 174, 175, 176, 177, 178, 823, 824, 825, 826, 827, 828, 829, 830, 831, 832, 833, 834, 835, 836, 837, 838, 839, 840, 841, 842, 843, 844, 845, 846, 847, 848, 849, 850, 851, 852, 853, 854, 855, 856, 857, 858, 859, 860, 861, 862, 863] (by decide +kernel) (by decide +kernel)
set_option maxRecDepth 20000 in
theorem gL_law_X9_apart : GoodIn wsL_law (wsV RL 54 RX9 yX9_apart wsX9_apart) := goodIn_app (goodIn_of _ (by decide +kernel)) ggL_law_X9_apart
set_option maxRecDepth 20000 in
theorem ggL_law_X8_stow : GoodIn wsL_law wsX8_stow := goodIn_r _ [383, 23, 151, 147, 2, 148, 384, 385, 386, 22, 387, 388, 389, 390, 391, 348, 392, 393, 394, 395, 71, 73, 72, 396, 397, 398, 399, 812, 813, 814, 815, 816, 817, 818, 819, 820, 821, 822, 875, 876, 877, 878, 879, 880, 881, 882] (by decide +kernel) (by decide +kernel)
set_option maxRecDepth 20000 in
theorem gL_law_X8_stow : GoodIn wsL_law (wsV RL 55 RX8 yX8_stow wsX8_stow) := goodIn_app (goodIn_of _ (by decide +kernel)) ggL_law_X8_stow
set_option maxRecDepth 20000 in
theorem ggL_law_X9_stow : GoodIn wsL_law wsX9_stow := goodIn_r _ [403, 164, 173, 404, 355, 118, 119, 120, 167, 168, 5, 169, 823, 824, 825, 826, 827, 828, 829, 830, 831, 832, 833, 834, 835, 836, 837, 838, 839, 840, 841, 842, 843, 844, 845, 846, 847, 848, 849, 850, 851, 852, 853, 854, 855, 856, 857, 858, 859, 860, 861, 862, 863] (by decide +kernel) (by decide +kernel)
set_option maxRecDepth 20000 in
theorem gL_law_X9_stow : GoodIn wsL_law (wsV RL 58 RX9 yX9_stow wsX9_stow) := goodIn_app (goodIn_of _ (by decide +kernel)) ggL_law_X9_stow
set_option maxRecDepth 20000 in
theorem ggL_law_X8_berths : GoodIn wsL_law wsX8_berths := goodIn_r _ [408, 27, 409, 410, 411, 26, 412, 413, 84, 79, 80, 78, 147, 2, 148, 414, 415, 416, 152, 153, 154, 155, 156, 157, 158, 159, 46, 812, 813, 814, 815, 816, 817, 818, 819, 820, 821, 822, 883, 884, 885, 886, 887, 888, 889, 890] (by decide +kernel) (by decide +kernel)
set_option maxRecDepth 20000 in
theorem gL_law_X8_berths : GoodIn wsL_law (wsV RL 59 RX8 yX8_berths wsX8_berths) := goodIn_app (goodIn_of _ (by decide +kernel)) ggL_law_X8_berths
set_option maxRecDepth 20000 in
theorem ggL_law_X9_berths : GoodIn wsL_law wsX9_berths := goodIn_r _ [420, 164, 195, 421, 124, 125, 123, 167, 168, 5, 169, 174, 175, 176, 177, 178, 422, 423, 424, 425, 823, 824, 825, 826, 827, 828, 829, 830, 831, 832, 833, 834, 835, 836, 837, 838, 839, 840, 841, 842, 843, 844, 845, 846, 847, 848, 849, 850, 851, 852, 853, 854, 855, 856, 857, 858, 859, 860, 861, 862, 863] (by decide +kernel) (by decide +kernel)
set_option maxRecDepth 20000 in
theorem gL_law_X9_berths : GoodIn wsL_law (wsV RL 62 RX9 yX9_berths wsX9_berths) := goodIn_app (goodIn_of _ (by decide +kernel)) ggL_law_X9_berths
set_option maxRecDepth 20000 in
theorem ggL_law_X8_slot : GoodIn wsL_law wsX8_slot := goodIn_r _ [429, 27, 430, 431, 432, 26, 433, 78, 413, 147, 2, 148, 414, 415, 416, 434, 435, 436, 437, 82, 438, 439, 440, 441, 84, 79, 80, 81, 442, 443, 444, 445, 446, 152, 153, 154, 155, 156, 157, 158, 159, 46, 812, 813, 814, 815, 816, 817, 818, 819, 820, 821, 822, 883, 884, 885, 886, 887, 888, 889, 890] (by decide +kernel) (by decide +kernel)
set_option maxRecDepth 20000 in
theorem gL_law_X8_slot : GoodIn wsL_law (wsV RL 63 RX8 yX8_slot wsX8_slot) := goodIn_app (goodIn_of _ (by decide +kernel)) ggL_law_X8_slot
set_option maxRecDepth 20000 in
theorem ggL_law_X9_slot : GoodIn wsL_law wsX9_slot := goodIn_r _ [450, 164, 451, 452, 123, 421, 124, 125, 126, 127, 167, 168, 5, 169, 174, 175, 176, 177, 178, 422, 423, 424, 425, 453, 454, 455, 456, 823, 824, 825, 826, 827, 828, 829, 830, 831, 832, 833, 834, 835, 836, 837, 838, 839, 840, 841, 842, 843, 844, 845, 846, 847, 848, 849, 850, 851, 852, 853, 854, 855, 856, 857, 858, 859, 860, 861, 862, 863] (by decide +kernel) (by decide +kernel)
set_option maxRecDepth 20000 in
theorem gL_law_X9_slot : GoodIn wsL_law (wsV RL 67 RX9 yX9_slot wsX9_slot) := goodIn_app (goodIn_of _ (by decide +kernel)) ggL_law_X9_slot
