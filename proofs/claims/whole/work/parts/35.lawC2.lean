set_option maxRecDepth 20000 in
theorem ggL_law_X8_of : GoodIn wsL_law wsX8_of := goodIn_r _ [460, 27, 461, 462, 463, 26, 464, 79, 80, 81, 82, 465, 466, 467, 468, 413, 84, 147, 2, 148, 812, 813, 814, 815, 816, 817, 818, 819, 820, 821, 822, 883, 884, 885, 886, 887, 888, 889, 890] (by decide +kernel) (by decide +kernel)
set_option maxRecDepth 20000 in
theorem gL_law_X8_of : GoodIn wsL_law (wsV RL 68 RX8 yX8_of wsX8_of) := goodIn_app (goodIn_of _ (by decide +kernel)) ggL_law_X8_of
set_option maxRecDepth 20000 in
theorem ggL_law_X9_of : GoodIn wsL_law wsX9_of := goodIn_r _ [472, 164, 124, 125, 126, 127, 473, 474, 475, 5, 476, 421, 167, 168, 169, 823, 824, 825, 826, 827, 828, 829, 830, 831, 832, 833, 834, 835, 836, 837, 838, 839, 840, 841, 842, 843, 844, 845, 846, 847, 848, 849, 850, 851, 852, 853, 854, 855, 856, 857, 858, 859, 860, 861, 862, 863] (by decide +kernel) (by decide +kernel)
set_option maxRecDepth 20000 in
theorem gL_law_X9_of : GoodIn wsL_law (wsV RL 71 RX9 yX9_of wsX9_of) := goodIn_app (goodIn_of _ (by decide +kernel)) ggL_law_X9_of
set_option maxRecDepth 20000 in
theorem ggL_law_X8_free : GoodIn wsL_law wsX8_free := goodIn_r _ [480, 27, 481, 482, 483, 26, 484, 84, 446, 465, 466, 467, 468, 413, 147, 2, 148, 152, 153, 154, 155, 156, 157, 158, 159, 46, 812, 813, 814, 815, 816, 817, 818, 819, 820, 821, 822, 883, 884, 885, 886, 887, 888, 889, 890] (by decide +kernel) (by decide +kernel)
set_option maxRecDepth 20000 in
theorem gL_law_X8_free : GoodIn wsL_law (wsV RL 72 RX8 yX8_free wsX8_free) := goodIn_app (goodIn_of _ (by decide +kernel)) ggL_law_X8_free
set_option maxRecDepth 20000 in
theorem ggL_law_X9_free : GoodIn wsL_law wsX9_free := goodIn_r _ [488, 164, 124, 473, 474, 475, 5, 476, 421, 167, 168, 169, 174, 175, 176, 177, 178, 823, 824, 825, 826, 827, 828, 829, 830, 831, 832, 833, 834, 835, 836, 837, 838, 839, 840, 841, 842, 843, 844, 845, 846, 847, 848, 849, 850, 851, 852, 853, 854, 855, 856, 857, 858, 859, 860, 861, 862, 863] (by decide +kernel) (by decide +kernel)
set_option maxRecDepth 20000 in
theorem gL_law_X9_free : GoodIn wsL_law (wsV RL 75 RX9 yX9_free wsX9_free) := goodIn_app (goodIn_of _ (by decide +kernel)) ggL_law_X9_free
set_option maxRecDepth 20000 in
theorem ggL_law_X8_feed : GoodIn wsL_law wsX8_feed := goodIn_r _ [492, 31, 493, 494, 495, 30, 496, 497, 498, 499, 500, 501, 88, 812, 813, 814, 815, 816, 817, 818, 819, 820, 821, 822, 891, 892] (by decide +kernel) (by decide +kernel)
set_option maxRecDepth 20000 in
theorem gL_law_X8_feed : GoodIn wsL_law (wsV RL 76 RX8 yX8_feed wsX8_feed) := goodIn_app (goodIn_of _ (by decide +kernel)) ggL_law_X8_feed
set_option maxRecDepth 20000 in
theorem ggL_law_X9_feed : GoodIn wsL_law wsX9_feed := goodIn_r _ [505, 164, 506, 507, 508, 509, 5, 510, 132, 823, 824, 825, 826, 827, 828, 829, 830, 831, 832, 833, 834, 835, 836, 837, 838, 839, 840, 841, 842, 843, 844, 845, 846, 847, 848, 849, 850, 851, 852, 853, 854, 855, 856, 857, 858, 859, 860, 861, 862, 863] (by decide +kernel) (by decide +kernel)
set_option maxRecDepth 20000 in
theorem gL_law_X9_feed : GoodIn wsL_law (wsV RL 79 RX9 yX9_feed wsX9_feed) := goodIn_app (goodIn_of _ (by decide +kernel)) ggL_law_X9_feed
set_option maxRecDepth 20000 in
theorem ggL_law_X8_end : GoodIn wsL_law wsX8_end := goodIn_r _ [514, 31, 151, 147, 2, 148, 812, 813, 814, 815, 816, 817, 818, 819, 820, 821, 822, 891, 892] (by decide +kernel) (by decide +kernel)
set_option maxRecDepth 20000 in
theorem gL_law_X8_end : GoodIn wsL_law (wsV RL 80 RX8 yX8_end wsX8_end) := goodIn_app (goodIn_of _ (by decide +kernel)) ggL_law_X8_end
set_option maxRecDepth 20000 in
theorem ggL_law_X9_end : GoodIn wsL_law wsX9_end := goodIn_r _ [518, 164, 506, 823, 824, 825, 826, 827, 828, 829, 830, 831, 832, 833, 834, 835, 836, 837, 838, 839, 840, 841, 842, 843, 844, 845, 846, 847, 848, 849, 850, 851, 852, 853, 854, 855, 856, 857, 858, 859, 860, 861, 862, 863] (by decide +kernel) (by decide +kernel)
set_option maxRecDepth 20000 in
theorem gL_law_X9_end : GoodIn wsL_law (wsV RL 83 RX9 yX9_end wsX9_end) := goodIn_app (goodIn_of _ (by decide +kernel)) ggL_law_X9_end
set_option maxRecDepth 20000 in
theorem ggL_law_X8_contract : GoodIn wsL_law wsX8_contract := goodIn_r _ [522, 35, 44, 45, 31, 43, 523, 524, 525, 34, 526, 527, 528, 529, 530, 531, 532, 93, 533, 534, 535, 536, 537, 538, 539, 147, 2, 148, 540, 541, 542, 543, 544, 545, 546, 547, 548, 549, 42, 550, 551, 552, 553, 554, 555, 556, 557, 558, 559, 560, 561, 562, 563, 564, 565, 566, 567, 568, 569, 570, 571, 572, 573, 574, 575, 576, 577, 578, 579, 580, 581, 582, 583, 584, 585, 586, 587, 588, 589, 590, 591, 592, 593, 594, 595, 596, 597, 598, 599, 600, 601, 602, 603, 604, 605, 606, 607, 608, 609, 610, 611, 612, 613, 614, 615, 616, 617, 618, 619, 620, 621, 622, 623, 105, 106, 107, 152, 153, 154, 155, 156, 157, 158, 159, 46, 812, 813, 814, 815, 816, 817, 818, 819, 820, 821, 822, 891, 892, 901, 902, 903, 904, 893, 894, 895] (by decide +kernel) (by decide +kernel)
set_option maxRecDepth 20000 in
theorem gL_law_X8_contract : GoodIn wsL_law (wsV RL 84 RX8 yX8_contract wsX8_contract) := goodIn_app (goodIn_of _ (by decide +kernel)) ggL_law_X8_contract
set_option maxRecDepth 20000 in
theorem ggL_law_X9_contract : GoodIn wsL_law wsX9_contract := goodIn_r _ [627, 164, 628, 629, 133, 630, 631, 632, 633, 506, 634, 128, 131, 129, 130, 635, 636, 637, 5, 638, 639, 132, 640, 641, 289, 354, 642, 643, 644, 645, 646, 647, 648, 649, 650, 651, 652, 653, 654, 655, 656, 657, 658, 659, 660, 661, 662, 663, 664, 665, 666, 667, 668, 669, 174, 175, 176, 177, 178, 823, 824, 825, 826, 827, 828, 829, 830, 831, 832, 833, 834, 835, 836, 837, 838, 839, 840, 841, 842, 843, 844, 845, 846, 847, 848, 849, 850, 851, 852, 853, 854, 855, 856, 857, 858, 859, 860, 861, 862, 863] (by decide +kernel) (by decide +kernel)
set_option maxRecDepth 20000 in
theorem gL_law_X9_contract : GoodIn wsL_law (wsV RL 88 RX9 yX9_contract wsX9_contract) := goodIn_app (goodIn_of _ (by decide +kernel)) ggL_law_X9_contract
set_option maxRecDepth 20000 in
theorem ggL_law_X8_fault : GoodIn wsL_law wsX8_fault := goodIn_r _ [673, 45, 812, 813, 814, 815, 816, 817, 818, 819, 820, 821, 822] (by decide +kernel) (by decide +kernel)
set_option maxRecDepth 20000 in
theorem gL_law_X8_fault : GoodIn wsL_law (wsV RL 89 RX8 yX8_fault wsX8_fault) := goodIn_app (goodIn_of _ (by decide +kernel)) ggL_law_X8_fault
set_option maxRecDepth 20000 in
theorem ggL_law_X9_fault : GoodIn wsL_law wsX9_fault := goodIn_r _ [677, 164, 133, 823, 824, 825, 826, 827, 828, 829, 830, 831, 832, 833, 834, 835, 836, 837, 838, 839, 840, 841, 842, 843, 844, 845, 846, 847, 848, 849, 850, 851, 852, 853, 854, 855, 856, 857, 858, 859, 860, 861, 862, 863] (by decide +kernel) (by decide +kernel)
set_option maxRecDepth 20000 in
theorem gL_law_X9_fault : GoodIn wsL_law (wsV RL 92 RX9 yX9_fault wsX9_fault) := goodIn_app (goodIn_of _ (by decide +kernel)) ggL_law_X9_fault
set_option maxRecDepth 20000 in
theorem ggL_law_X8_due : GoodIn wsL_law wsX8_due := goodIn_r _ [681, 682, 232, 43, 683, 684, 2, 685, 151, 147, 148, 686, 687, 688, 42, 689, 623, 690, 691, 692, 693, 106, 107, 105, 694, 695, 158, 696, 697, 698, 699, 812, 813, 814, 815, 816, 817, 818, 819, 820, 821, 822, 901, 902, 903, 904] (by decide +kernel) (by decide +kernel)
set_option maxRecDepth 20000 in
theorem gL_law_X8_due : GoodIn wsL_law (wsV RL 93 RX8 yX8_due wsX8_due) := goodIn_app (goodIn_of _ (by decide +kernel)) ggL_law_X8_due
