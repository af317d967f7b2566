set_option maxRecDepth 100000 in
theorem ggL_law_X11_init : GoodIn wsL_law wsX11_init := goodIn_r _ [10, 11, 12, 13, 14, 15, 16, 17, 18, 19, 20, 21, 22, 23, 24, 25, 26, 27, 28, 29, 30, 31, 32, 33, 34, 35, 36, 37, 38, 39, 40, 41, 42, 43, 44, 45, 46, 47, 48, 49, 50, 51, 52, 53, 54, 55, 56, 57, 58, 59, 60, 61, 62, 63, 64, 65, 66, 67, 68, 69, 70, 71, 72, 73, 74, 75, 76, 77, 78, 79, 80, 81, 82, 83, 84, 85, 86, 87, 88, 89, 6, 90, 91, 92, 93, 94, 95, 96, 97, 98, 99, 100, 101, 102, 103, 104, 105, 106, 107, 108, 109, 110, 111, 112, 113, 114, 115, 116, 117, 118, 119, 120, 121, 122, 123, 124, 125, 126, 127, 128, 129, 130, 131, 132, 133, 134, 925, 926, 927, 928, 929, 930, 931, 932, 933, 934, 935, 936, 937, 938, 939, 940, 982, 983, 984, 985, 986, 987, 988, 989, 990, 991, 992, 993, 994, 995, 996, 997, 998, 999, 1000, 1001, 1002, 1003, 1004, 1005, 1006, 1007, 1008, 1009, 1010, 1011, 1012, 1013, 1014, 1015, 1016, 1017, 1018, 1019, 1020, 1021, 1022, 1023, 1024, 1025, 1026, 1027, 1028, 1029, 1030, 1031, 1032, 1033, 1034, 1035, 1036, 1037, 1038, 1039, 1040, 1041] rfl (by decide +kernel)
set_option maxRecDepth 100000 in
theorem gL_law_X11_init : GoodIn wsL_law (wsX11_init) := ggL_law_X11_init
set_option maxRecDepth 100000 in
theorem ggL_law_X12_init : GoodIn wsL_law wsX12_init := goodIn_r _ [137, 138, 12, 13, 19, 139, 140, 141, 142, 143, 144, 145, 146, 147, 148, 149, 150, 151, 152, 153, 154, 155, 156, 157, 158, 159, 6, 160, 161, 162, 163, 941, 942, 943, 944, 945, 946, 947, 948, 949, 950, 951, 952, 953, 954, 955, 956, 957, 958, 959, 960, 961, 962, 963, 964, 965, 966, 967, 968, 969, 970, 971, 972, 973, 974, 975, 976, 977, 978, 979, 980, 981] rfl (by decide +kernel)
set_option maxRecDepth 100000 in
theorem gL_law_X12_init : GoodIn wsL_law (wsX12_init) := ggL_law_X12_init
set_option maxRecDepth 100000 in
theorem ggL_law_X11_tune : GoodIn wsL_law wsX11_tune := goodIn_r _ [167, 168, 925, 926, 927, 928, 929, 930, 931, 932, 933, 934, 935, 936, 937, 938, 939, 940] rfl (by decide +kernel)
set_option maxRecDepth 100000 in
theorem gL_law_X11_tune : GoodIn wsL_law (wsV RL 25 RX11 yX11_tune wsX11_tune) := goodIn_app (goodIn_of _ (by decide +kernel)) ggL_law_X11_tune
set_option maxRecDepth 100000 in
theorem ggL_law_X12_tune : GoodIn wsL_law wsX12_tune := goodIn_r _ [172, 173, 174, 141, 941, 942, 943, 944, 945, 946, 947, 948, 949, 950, 951, 952, 953, 954, 955, 956, 957, 958, 959, 960, 961, 962, 963, 964, 965, 966, 967, 968, 969, 970, 971, 972, 973, 974, 975, 976, 977, 978, 979, 980, 981] rfl (by decide +kernel)
set_option maxRecDepth 100000 in
theorem gL_law_X12_tune : GoodIn wsL_law (wsV RL 29 RX12 yX12_tune wsX12_tune) := goodIn_app (goodIn_of _ (by decide +kernel)) ggL_law_X12_tune
set_option maxRecDepth 100000 in
theorem ggL_law_X11_note : GoodIn wsL_law wsX11_note := goodIn_r _ [178, 15, 179, 180, 181, 2, 182, 168, 183, 184, 185, 186, 187, 188, 189, 17, 190, 191, 55, 192, 193, 194, 195, 56, 925, 926, 927, 928, 929, 930, 931, 932, 933, 934, 935, 936, 937, 938, 939, 940, 982, 983, 984] rfl (by decide +kernel)
set_option maxRecDepth 100000 in
theorem gL_law_X11_note : GoodIn wsL_law (wsV RL 30 RX11 yX11_note wsX11_note) := goodIn_app (goodIn_of _ (by decide +kernel)) ggL_law_X11_note
set_option maxRecDepth 100000 in
theorem ggL_law_X12_note : GoodIn wsL_law wsX12_note := goodIn_r _ [199, 200, 201, 202, 5, 203, 173, 174, 204, 205, 206, 207, 141, 139, 140, 941, 942, 943, 944, 945, 946, 947, 948, 949, 950, 951, 952, 953, 954, 955, 956, 957, 958, 959, 960, 961, 962, 963, 964, 965, 966, 967, 968, 969, 970, 971, 972, 973, 974, 975, 976, 977, 978, 979, 980, 981] rfl (by decide +kernel)
set_option maxRecDepth 100000 in
theorem gL_law_X12_note : GoodIn wsL_law (wsV RL 34 RX12 yX12_note wsX12_note) := goodIn_app (goodIn_of _ (by decide +kernel)) ggL_law_X12_note
set_option maxRecDepth 100000 in
theorem ggL_law_X11_query : GoodIn wsL_law wsX11_query := goodIn_r _ [211, 18, 183, 184, 2, 185, 186, 187, 188, 189, 17, 190, 191, 55, 192, 193, 194, 195, 56, 925, 926, 927, 928, 929, 930, 931, 932, 933, 934, 935, 936, 937, 938, 939, 940, 982, 983, 984] rfl (by decide +kernel)
set_option maxRecDepth 100000 in
theorem gL_law_X11_query : GoodIn wsL_law (wsV RL 35 RX11 yX11_query wsX11_query) := goodIn_app (goodIn_of _ (by decide +kernel)) ggL_law_X11_query
set_option maxRecDepth 100000 in
theorem ggL_law_X12_query : GoodIn wsL_law wsX12_query := goodIn_r _ [215, 173, 204, 205, 206, 5, 207, 141, 139, 140, 941, 942, 943, 944, 945, 946, 947, 948, 949, 950, 951, 952, 953, 954, 955, 956, 957, 958, 959, 960, 961, 962, 963, 964, 965, 966, 967, 968, 969, 970, 971, 972, 973, 974, 975, 976, 977, 978, 979, 980, 981] rfl (by decide +kernel)
