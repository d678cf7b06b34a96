set_option maxRecDepth 20000 in
theorem ggL_law_X9_due : GoodIn wsL_law wsX9_due := goodIn_r _ [703, 164, 354, 704, 289, 634, 129, 130, 128, 167, 168, 5, 169, 823, 824, 825, 826, 827, 828, 829, 830, 831, 832, 833, 834, 835, 836, 837, 838, 839, 840, 841, 842, 843, 844, 845, 846, 847, 848, 849, 850, 851, 852, 853, 854, 855, 856, 857, 858, 859, 860, 861, 862, 863] (by decide +kernel) (by decide +kernel)
set_option maxRecDepth 20000 in
theorem gL_law_X9_due : GoodIn wsL_law (wsV RL 97 RX9 yX9_due wsX9_due) := goodIn_app (goodIn_of _ (by decide +kernel)) ggL_law_X9_due
set_option maxRecDepth 20000 in
theorem ggL_law_X8_leg : GoodIn wsL_law wsX8_leg := goodIn_r _ [708, 39, 709, 710, 711, 38, 712, 713, 714, 98, 147, 2, 148, 152, 153, 154, 155, 156, 157, 158, 159, 46, 812, 813, 814, 815, 816, 817, 818, 819, 820, 821, 822, 896, 897, 898, 899, 900] (by decide +kernel) (by decide +kernel)
set_option maxRecDepth 20000 in
theorem gL_law_X8_leg : GoodIn wsL_law (wsV RL 98 RX8 yX8_leg wsX8_leg) := goodIn_app (goodIn_of _ (by decide +kernel)) ggL_law_X8_leg
set_option maxRecDepth 20000 in
theorem ggL_law_X9_leg : GoodIn wsL_law wsX9_leg := goodIn_r _ [718, 164, 719, 720, 134, 167, 168, 5, 169, 174, 175, 176, 177, 178, 823, 824, 825, 826, 827, 828, 829, 830, 831, 832, 833, 834, 835, 836, 837, 838, 839, 840, 841, 842, 843, 844, 845, 846, 847, 848, 849, 850, 851, 852, 853, 854, 855, 856, 857, 858, 859, 860, 861, 862, 863] (by decide +kernel) (by decide +kernel)
set_option maxRecDepth 20000 in
theorem gL_law_X9_leg : GoodIn wsL_law (wsV RL 101 RX9 yX9_leg wsX9_leg) := goodIn_app (goodIn_of _ (by decide +kernel)) ggL_law_X9_leg
set_option maxRecDepth 20000 in
theorem ggL_law_X8_aboard : GoodIn wsL_law wsX8_aboard := goodIn_r _ [724, 39, 725, 726, 727, 38, 728, 101, 99, 100, 729, 365, 366, 22, 367, 348, 147, 2, 148, 730, 731, 732, 733, 714, 152, 153, 154, 155, 156, 157, 158, 159, 46, 812, 813, 814, 815, 816, 817, 818, 819, 820, 821, 822, 896, 897, 898, 899, 900, 875, 876, 877, 878, 879, 880, 881, 882] (by decide +kernel) (by decide +kernel)
set_option maxRecDepth 20000 in
theorem gL_law_X8_aboard : GoodIn wsL_law (wsV RL 102 RX8 yX8_aboard wsX8_aboard) := goodIn_app (goodIn_of _ (by decide +kernel)) ggL_law_X8_aboard
set_option maxRecDepth 20000 in
theorem ggL_law_X9_aboard : GoodIn wsL_law wsX9_aboard := goodIn_r _ [737, 164, 121, 122, 174, 175, 176, 5, 177, 178, 376, 377, 378, 379, 355, 167, 168, 169, 738, 739, 740, 741, 720, 823, 824, 825, 826, 827, 828, 829, 830, 831, 832, 833, 834, 835, 836, 837, 838, 839, 840, 841, 842, 843, 844, 845, 846, 847, 848, 849, 850, 851, 852, 853, 854, 855, 856, 857, 858, 859, 860, 861, 862, 863] (by decide +kernel) (by decide +kernel)
set_option maxRecDepth 20000 in
theorem gL_law_X9_aboard : GoodIn wsL_law (wsV RL 105 RX9 yX9_aboard wsX9_aboard) := goodIn_app (goodIn_of _ (by decide +kernel)) ggL_law_X9_aboard
set_option maxRecDepth 20000 in
theorem ggL_law_X8_part : GoodIn wsL_law wsX8_part := goodIn_r _ [745, 23, 39, 746, 365, 366, 22, 367, 348, 147, 2, 148, 747, 731, 732, 38, 733, 714, 748, 749, 750, 751, 98, 101, 752, 753, 754, 755, 756, 757, 758, 759, 99, 100, 760, 761, 762, 812, 813, 814, 815, 816, 817, 818, 819, 820, 821, 822, 875, 876, 877, 878, 879, 880, 881, 882, 896, 897, 898, 899, 900] (by decide +kernel) (by decide +kernel)
set_option maxRecDepth 20000 in
theorem gL_law_X8_part : GoodIn wsL_law (wsV RL 106 RX8 yX8_part wsX8_part) := goodIn_app (goodIn_of _ (by decide +kernel)) ggL_law_X8_part
set_option maxRecDepth 20000 in
theorem ggL_law_X9_part : GoodIn wsL_law wsX9_part := goodIn_r _ [766, 164, 376, 377, 378, 5, 379, 355, 167, 168, 169, 738, 739, 740, 741, 720, 767, 768, 769, 770, 134, 118, 771, 772, 773, 774, 121, 122, 775, 776, 777, 778, 823, 824, 825, 826, 827, 828, 829, 830, 831, 832, 833, 834, 835, 836, 837, 838, 839, 840, 841, 842, 843, 844, 845, 846, 847, 848, 849, 850, 851, 852, 853, 854, 855, 856, 857, 858, 859, 860, 861, 862, 863] (by decide +kernel) (by decide +kernel)
set_option maxRecDepth 20000 in
theorem gL_law_X9_part : GoodIn wsL_law (wsV RL 109 RX9 yX9_part wsX9_part) := goodIn_app (goodIn_of _ (by decide +kernel)) ggL_law_X9_part
set_option maxRecDepth 20000 in
theorem ggL_law_X8_smoke : GoodIn wsL_law wsX8_smoke := goodIn_r _ [782, 39, 23, 783, 784, 785, 38, 786, 714, 98, 752, 753, 754, 755, 101, 756, 757, 758, 759, 99, 100, 746, 365, 366, 22, 367, 348, 147, 2, 148, 787, 788, 789, 790, 791, 749, 750, 751, 760, 761, 762, 812, 813, 814, 815, 816, 817, 818, 819, 820, 821, 822, 896, 897, 898, 899, 900, 875, 876, 877, 878, 879, 880, 881, 882] (by decide +kernel) (by decide +kernel)
set_option maxRecDepth 20000 in
theorem gL_law_X8_smoke : GoodIn wsL_law (wsV RL 110 RX8 yX8_smoke wsX8_smoke) := goodIn_app (goodIn_of _ (by decide +kernel)) ggL_law_X8_smoke
set_option maxRecDepth 20000 in
theorem ggL_law_X9_smoke : GoodIn wsL_law wsX9_smoke := goodIn_r _ [795, 164, 720, 134, 376, 377, 378, 5, 379, 355, 167, 168, 169, 767, 768, 769, 770, 118, 771, 772, 773, 774, 121, 122, 775, 776, 777, 778, 823, 824, 825, 826, 827, 828, 829, 830, 831, 832, 833, 834, 835, 836, 837, 838, 839, 840, 841, 842, 843, 844, 845, 846, 847, 848, 849, 850, 851, 852, 853, 854, 855, 856, 857, 858, 859, 860, 861, 862, 863] (by decide +kernel) (by decide +kernel)
set_option maxRecDepth 20000 in
theorem gL_law_X9_smoke : GoodIn wsL_law (wsV RL 113 RX9 yX9_smoke wsX9_smoke) := goodIn_app (goodIn_of _ (by decide +kernel)) ggL_law_X9_smoke
set_option maxRecDepth 20000 in
theorem ggL_law_X8_count : GoodIn wsL_law wsX8_count := goodIn_r _ [799, 15, 23, 27, 43, 39, 31, 812, 813, 814, 815, 816, 817, 818, 819, 820, 821, 822, 864, 865, 866, 875, 876, 877, 878, 879, 880, 881, 882, 883, 884, 885, 886, 887, 888, 889, 890, 901, 902, 903, 904, 896, 897, 898, 899, 900, 891, 892] (by decide +kernel) (by decide +kernel)
set_option maxRecDepth 20000 in
theorem gL_law_X8_count : GoodIn wsL_law (wsV RL 114 RX8 yX8_count wsX8_count) := goodIn_app (goodIn_of _ (by decide +kernel)) ggL_law_X8_count
set_option maxRecDepth 20000 in
theorem ggL_law_X9_count : GoodIn wsL_law wsX9_count := goodIn_r _ [803, 164, 166, 355, 421, 634, 720, 506, 124, 823, 824, 825, 826, 827, 828, 829, 830, 831, 832, 833, 834, 835, 836, 837, 838, 839, 840, 841, 842, 843, 844, 845, 846, 847, 848, 849, 850, 851, 852, 853, 854, 855, 856, 857, 858, 859, 860, 861, 862, 863] (by decide +kernel) (by decide +kernel)
set_option maxRecDepth 20000 in
theorem gL_law_X9_count : GoodIn wsL_law (wsV RL 117 RX9 yX9_count wsX9_count) := goodIn_app (goodIn_of _ (by decide +kernel)) ggL_law_X9_count
set_option maxRecDepth 20000 in
theorem ggL_law_X8_status : GoodIn wsL_law wsX8_status := goodIn_r _ [807, 46, 812, 813, 814, 815, 816, 817, 818, 819, 820, 821, 822] (by decide +kernel) (by decide +kernel)
set_option maxRecDepth 20000 in
theorem gL_law_X8_status : GoodIn wsL_law (wsV RL 118 RX8 yX8_status wsX8_status) := goodIn_app (goodIn_of _ (by decide +kernel)) ggL_law_X8_status
set_option maxRecDepth 20000 in
theorem ggL_law_X9_status : GoodIn wsL_law wsX9_status := goodIn_r _ [811, 164, 178, 823, 824, 825, 826, 827, 828, 829, 830, 831, 832, 833, 834, 835, 836, 837, 838, 839, 840, 841, 842, 843, 844, 845, 846, 847, 848, 849, 850, 851, 852, 853, 854, 855, 856, 857, 858, 859, 860, 861, 862, 863] (by decide +kernel) (by decide +kernel)
set_option maxRecDepth 20000 in
theorem gL_law_X9_status : GoodIn wsL_law (wsV RL 121 RX9 yX9_status wsX9_status) := goodIn_app (goodIn_of _ (by decide +kernel)) ggL_law_X9_status
