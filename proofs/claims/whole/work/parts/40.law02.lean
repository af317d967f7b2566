set_option maxRecDepth 100000 in
theorem gL_law_X12_query : GoodIn wsL_law (wsV RL 38 RX12 yX12_query wsX12_query) := goodIn_app (goodIn_of _ (by decide +kernel)) ggL_law_X12_query
set_option maxRecDepth 100000 in
theorem ggL_law_X11_forget : GoodIn wsL_law wsX11_forget := goodIn_r _ [219, 18, 186, 925, 926, 927, 928, 929, 930, 931, 932, 933, 934, 935, 936, 937, 938, 939, 940, 982, 983, 984] rfl (by decide +kernel)
set_option maxRecDepth 100000 in
theorem gL_law_X11_forget : GoodIn wsL_law (wsV RL 39 RX11 yX11_forget wsX11_forget) := goodIn_app (goodIn_of _ (by decide +kernel)) ggL_law_X11_forget
set_option maxRecDepth 100000 in
theorem ggL_law_X12_forget : GoodIn wsL_law wsX12_forget := goodIn_r _ [223, 173, 141, 941, 942, 943, 944, 945, 946, 947, 948, 949, 950, 951, 952, 953, 954, 955, 956, 957, 958, 959, 960, 961, 962, 963, 964, 965, 966, 967, 968, 969, 970, 971, 972, 973, 974, 975, 976, 977, 978, 979, 980, 981] rfl (by decide +kernel)
set_option maxRecDepth 100000 in
theorem gL_law_X12_forget : GoodIn wsL_law (wsV RL 42 RX12 yX12_forget wsX12_forget) := goodIn_app (goodIn_of _ (by decide +kernel)) ggL_law_X12_forget
set_option maxRecDepth 100000 in
theorem ggL_law_X11_price : GoodIn wsL_law wsX11_price := goodIn_r _ [227, 20, 925, 926, 927, 928, 929, 930, 931, 932, 933, 934, 935, 936, 937, 938, 939, 940] rfl (by decide +kernel)
set_option maxRecDepth 100000 in
theorem gL_law_X11_price : GoodIn wsL_law (wsV RL 43 RX11 yX11_price wsX11_price) := goodIn_app (goodIn_of _ (by decide +kernel)) ggL_law_X11_price
set_option maxRecDepth 100000 in
theorem ggL_law_X12_price : GoodIn wsL_law wsX12_price := goodIn_r _ [231, 173, 142, 941, 942, 943, 944, 945, 946, 947, 948, 949, 950, 951, 952, 953, 954, 955, 956, 957, 958, 959, 960, 961, 962, 963, 964, 965, 966, 967, 968, 969, 970, 971, 972, 973, 974, 975, 976, 977, 978, 979, 980, 981] rfl (by decide +kernel)
set_option maxRecDepth 100000 in
theorem gL_law_X12_price : GoodIn wsL_law (wsV RL 46 RX12 yX12_price wsX12_price) := goodIn_app (goodIn_of _ (by decide +kernel)) ggL_law_X12_price
set_option maxRecDepth 100000 in
theorem ggL_law_X11_type : GoodIn wsL_law wsX11_type := goodIn_r _ [235, 24, 236, 237, 238, 239, 23, 240, 241, 242, 243, 244, 245, 64, 925, 926, 927, 928, 929, 930, 931, 932, 933, 934, 935, 936, 937, 938, 939, 940, 985, 986] rfl (by decide +kernel)
set_option maxRecDepth 100000 in
theorem gL_law_X11_type : GoodIn wsL_law (wsV RL 49 RX11 yX11_type wsX11_type) := goodIn_app (goodIn_of _ (by decide +kernel)) ggL_law_X11_type
set_option maxRecDepth 100000 in
theorem ggL_law_X12_type : GoodIn wsL_law wsX12_type := goodIn_r _ [249, 173, 250, 144, 941, 942, 943, 944, 945, 946, 947, 948, 949, 950, 951, 952, 953, 954, 955, 956, 957, 958, 959, 960, 961, 962, 963, 964, 965, 966, 967, 968, 969, 970, 971, 972, 973, 974, 975, 976, 977, 978, 979, 980, 981] rfl (by decide +kernel)
set_option maxRecDepth 100000 in
theorem gL_law_X12_type : GoodIn wsL_law (wsV RL 53 RX12 yX12_type wsX12_type) := goodIn_app (goodIn_of _ (by decide +kernel)) ggL_law_X12_type
set_option maxRecDepth 100000 in
theorem ggL_law_X11_word : GoodIn wsL_law wsX11_word := goodIn_r _ [254, 28, 24, 33, 255, 236, 256, 32, 257, 258, 259, 260, 261, 27, 262, 263, 264, 265, 266, 70, 267, 268, 269, 270, 271, 272, 273, 274, 275, 72, 276, 79, 80, 81, 277, 278, 279, 280, 78, 281, 282, 283, 284, 285, 286, 287, 288, 289, 290, 291, 292, 293, 294, 23, 295, 241, 64, 296, 297, 298, 299, 300, 301, 302, 303, 304, 305, 306, 307, 308, 309, 310, 311, 312, 313, 314, 315, 316, 317, 318, 319, 320, 321, 322, 323, 324, 325, 326, 31, 327, 328, 329, 330, 331, 332, 333, 334, 335, 336, 337, 338, 90, 339, 340, 341, 342, 343, 344, 345, 346, 88, 89, 347, 348, 349, 350, 351, 352, 353, 354, 355, 356, 357, 358, 359, 360, 361, 362, 363, 364, 365, 366, 367, 368, 369, 370, 371, 372, 373, 374, 925, 926, 927, 928, 929, 930, 931, 932, 933, 934, 935, 936, 937, 938, 939, 940, 985, 986, 987, 988, 989, 990, 991, 992, 993, 994, 995, 996, 997, 998, 999, 1000, 1001, 1002, 1003, 1030, 1031, 1032, 1033, 1034, 1035, 1036] rfl (by decide +kernel)
set_option maxRecDepth 100000 in
theorem gL_law_X11_word : GoodIn wsL_law (wsV RL 54 RX11 yX11_word wsX11_word) := goodIn_app (goodIn_of _ (by decide +kernel)) ggL_law_X11_word
