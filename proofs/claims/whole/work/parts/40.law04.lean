set_option maxRecDepth 100000 in
theorem gL_law_L_found : GoodIn wsL_law (va_wsS RL 71 yL_found wsL_found) := goodIn_app (goodIn_of _ (by decide +kernel)) ggL_law_L_found
set_option maxRecDepth 100000 in
theorem ggL_law_X12_found : GoodIn wsL_law wsX12_found := goodIn_r _ [748, 606, 173, 150, 941, 942, 943, 944, 945, 946, 947, 948, 949, 950, 951, 952, 953, 954, 955, 956, 957, 958, 959, 960, 961, 962, 963, 964, 965, 966, 967, 968, 969, 970, 971, 972, 973, 974, 975, 976, 977, 978, 979, 980, 981] rfl (by decide +kernel)
set_option maxRecDepth 100000 in
theorem gL_law_X12_found : GoodIn wsL_law (wsV RL 76 RX12 yX12_found wsX12_found) := goodIn_app (goodIn_of _ (by decide +kernel)) ggL_law_X12_found
set_option maxRecDepth 100000 in
theorem ggL_law_X12_thrown : GoodIn wsL_law wsX12_thrown := goodIn_r _ [752, 173, 941, 942, 943, 944, 945, 946, 947, 948, 949, 950, 951, 952, 953, 954, 955, 956, 957, 958, 959, 960, 961, 962, 963, 964, 965, 966, 967, 968, 969, 970, 971, 972, 973, 974, 975, 976, 977, 978, 979, 980, 981] rfl (by decide +kernel)
set_option maxRecDepth 100000 in
theorem gL_law_X12_thrown : GoodIn wsL_law (wsV RL 77 RX12 yX12_thrown wsX12_thrown) := goodIn_app (goodIn_of _ (by decide +kernel)) ggL_law_X12_thrown
set_option maxRecDepth 100000 in
theorem ggL_law_X11_distance : GoodIn wsL_law wsX11_distance := goodIn_r _ [756, 41, 20, 15, 757, 179, 180, 181, 2, 182, 168, 758, 759, 760, 40, 761, 100, 662, 646, 647, 648, 649, 650, 651, 652, 653, 654, 655, 640, 434, 431, 435, 656, 663, 664, 665, 666, 641, 667, 668, 669, 670, 101, 671, 672, 673, 674, 675, 676, 677, 678, 679, 680, 681, 682, 683, 684, 685, 686, 687, 688, 689, 690, 691, 692, 693, 694, 695, 925, 926, 927, 928, 929, 930, 931, 932, 933, 934, 935, 936, 937, 938, 939, 940, 1006, 1007, 1008, 1009, 1010, 1011, 1012, 1013, 1014, 1015, 982, 983, 984] rfl (by decide +kernel)
set_option maxRecDepth 100000 in
theorem gL_law_X11_distance : GoodIn wsL_law (wsV RL 80 RX11 yX11_distance wsX11_distance) := goodIn_app (goodIn_of _ (by decide +kernel)) ggL_law_X11_distance
set_option maxRecDepth 100000 in
theorem ggL_law_X12_distance : GoodIn wsL_law wsX12_distance := goodIn_r _ [765, 200, 201, 202, 5, 203, 173, 174, 766, 767, 768, 769, 141, 151, 770, 771, 772, 773, 716, 142, 140, 774, 434, 431, 435, 721, 677, 678, 726, 727, 728, 729, 139, 941, 942, 943, 944, 945, 946, 947, 948, 949, 950, 951, 952, 953, 954, 955, 956, 957, 958, 959, 960, 961, 962, 963, 964, 965, 966, 967, 968, 969, 970, 971, 972, 973, 974, 975, 976, 977, 978, 979, 980, 981] rfl (by decide +kernel)
set_option maxRecDepth 100000 in
theorem gL_law_X12_distance : GoodIn wsL_law (wsV RL 83 RX12 yX12_distance wsX12_distance) := goodIn_app (goodIn_of _ (by decide +kernel)) ggL_law_X12_distance
set_option maxRecDepth 100000 in
theorem ggL_law_X11_freight : GoodIn wsL_law wsX11_freight := goodIn_r _ [778, 779, 49, 15, 20, 179, 180, 181, 2, 182, 168, 780, 781, 782, 48, 783, 116, 117, 784, 785, 786, 787, 115, 788, 789, 790, 791, 132, 792, 133, 134, 793, 794, 564, 565, 17, 566, 55, 795, 796, 797, 798, 799, 119, 120, 800, 801, 802, 803, 804, 805, 677, 431, 678, 806, 121, 122, 807, 58, 59, 60, 808, 809, 810, 811, 812, 124, 813, 814, 815, 816, 123, 817, 128, 818, 819, 820, 821, 125, 126, 822, 823, 824, 825, 826, 827, 828, 829, 830, 831, 832, 833, 834, 835, 836, 837, 838, 434, 435, 839, 840, 841, 842, 925, 926, 927, 928, 929, 930, 931, 932, 933, 934, 935, 936, 937, 938, 939, 940, 1019, 1020, 1021, 1022, 1023, 1024, 1025, 1026, 1027, 1028, 1029, 1037, 1038, 1039, 1040, 1041, 982, 983, 984] rfl (by decide +kernel)
set_option maxRecDepth 100000 in
theorem gL_law_X11_freight : GoodIn wsL_law (wsV RL 84 RX11 yX11_freight wsX11_freight) := goodIn_app (goodIn_of _ (by decide +kernel)) ggL_law_X11_freight
set_option maxRecDepth 100000 in
theorem ggL_law_X12_freight : GoodIn wsL_law wsX12_freight := goodIn_r _ [846, 847, 200, 201, 202, 5, 203, 173, 174, 848, 849, 850, 851, 774, 434, 431, 435, 852, 142, 721, 677, 678, 141, 158, 161, 162, 159, 157, 853, 854, 855, 856, 139, 140, 857, 858, 859, 860, 160, 861, 862, 863, 864, 865, 941, 942, 943, 944, 945, 946, 947, 948, 949, 950, 951, 952, 953, 954, 955, 956, 957, 958, 959, 960, 961, 962, 963, 964, 965, 966, 967, 968, 969, 970, 971, 972, 973, 974, 975, 976, 977, 978, 979, 980, 981] rfl (by decide +kernel)
set_option maxRecDepth 100000 in
theorem gL_law_X12_freight : GoodIn wsL_law (wsV RL 87 RX12 yX12_freight wsX12_freight) := goodIn_app (goodIn_of _ (by decide +kernel)) ggL_law_X12_freight
set_option maxRecDepth 100000 in
theorem ggL_law_L_share : GoodIn wsL_law wsL_share := goodIn_ca (goodIn_ca (goodIn_r _ [868, 734, 869, 870, 871, 872, 2, 873, 739, 740, 874, 875, 49, 15, 876, 20, 179, 180, 181, 182, 168, 780, 781, 782, 48, 783, 116, 117, 784, 785, 786, 787, 115, 788, 789, 790, 791, 132, 792, 133, 134, 793, 794, 564, 565, 17, 566, 55, 877, 878, 879, 880, 795, 796, 797, 798, 799, 119, 120, 800, 801, 802, 803, 804, 805, 677, 431, 678, 806, 121, 122, 807, 58, 59, 60, 808, 809, 810, 811, 812, 124, 813, 814, 815, 816, 123, 817, 128, 818, 819, 820, 821, 125, 126, 822, 823, 824, 825, 826, 827, 828, 829, 830, 831, 832, 833, 834, 835, 836, 837, 838, 434, 435, 839, 840, 841, 842, 925, 926, 927, 928, 929, 930, 931, 932, 933, 934, 935, 936, 937, 938, 939, 940, 1019, 1020, 1021, 1022, 1023, 1024, 1025, 1026, 1027, 1028, 1029, 1037, 1038, 1039, 1040, 1041, 982, 983, 984] rfl (by decide +kernel)) (goodIn_sub (fun _ h => List.mem_append_left _ (List.mem_append_right _ h)) (by decide +kernel))) (goodIn_sub (fun _ h => List.mem_append_right _ h) (by decide +kernel))
set_option maxRecDepth 100000 in
theorem gL_law_L_share : GoodIn wsL_law (va_wsS RL 88 yL_share wsL_share) := goodIn_app (goodIn_of _ (by decide +kernel)) ggL_law_L_share
