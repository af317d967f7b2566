set_option maxRecDepth 100000 in
theorem ggL_law_X12_word : GoodIn wsL_law wsX12_word := goodIn_r _ [378, 173, 379, 380, 381, 382, 383, 384, 250, 385, 386, 145, 387, 388, 389, 390, 146, 147, 148, 391, 392, 393, 5, 394, 144, 395, 396, 397, 398, 399, 400, 401, 402, 403, 404, 405, 406, 407, 408, 409, 410, 411, 412, 413, 414, 415, 416, 417, 418, 419, 420, 421, 422, 423, 424, 425, 426, 427, 428, 429, 430, 431, 432, 433, 434, 435, 436, 437, 438, 439, 440, 441, 442, 443, 444, 445, 446, 447, 448, 449, 450, 451, 452, 453, 454, 455, 456, 457, 458, 459, 460, 461, 462, 463, 464, 465, 466, 467, 468, 469, 470, 471, 472, 473, 474, 475, 476, 477, 478, 479, 480, 481, 482, 483, 484, 485, 486, 487, 488, 489, 490, 491, 492, 493, 494, 495, 496, 497, 498, 499, 500, 501, 502, 503, 504, 505, 506, 507, 508, 509, 510, 511, 512, 513, 514, 515, 516, 517, 518, 519, 520, 521, 522, 523, 524, 525, 526, 527, 528, 529, 530, 531, 532, 533, 941, 942, 943, 944, 945, 946, 947, 948, 949, 950, 951, 952, 953, 954, 955, 956, 957, 958, 959, 960, 961, 962, 963, 964, 965, 966, 967, 968, 969, 970, 971, 972, 973, 974, 975, 976, 977, 978, 979, 980, 981] rfl (by decide +kernel)
set_option maxRecDepth 100000 in
theorem gL_law_X12_word : GoodIn wsL_law (wsV RL 57 RX12 yX12_word wsX12_word) := goodIn_app (goodIn_of _ (by decide +kernel)) ggL_law_X12_word
set_option maxRecDepth 100000 in
theorem ggL_law_X11_fault : GoodIn wsL_law wsX11_fault := goodIn_r _ [537, 255, 925, 926, 927, 928, 929, 930, 931, 932, 933, 934, 935, 936, 937, 938, 939, 940] rfl (by decide +kernel)
set_option maxRecDepth 100000 in
theorem gL_law_X11_fault : GoodIn wsL_law (wsV RL 58 RX11 yX11_fault wsX11_fault) := goodIn_app (goodIn_of _ (by decide +kernel)) ggL_law_X11_fault
set_option maxRecDepth 100000 in
theorem ggL_law_X12_fault_ : GoodIn wsL_law wsX12_fault_ := goodIn_r _ [541, 173, 385, 941, 942, 943, 944, 945, 946, 947, 948, 949, 950, 951, 952, 953, 954, 955, 956, 957, 958, 959, 960, 961, 962, 963, 964, 965, 966, 967, 968, 969, 970, 971, 972, 973, 974, 975, 976, 977, 978, 979, 980, 981] rfl (by decide +kernel)
set_option maxRecDepth 100000 in
theorem gL_law_X12_fault_ : GoodIn wsL_law (wsV RL 61 RX12 yX12_fault_ wsX12_fault_) := goodIn_app (goodIn_of _ (by decide +kernel)) ggL_law_X12_fault_
set_option maxRecDepth 100000 in
theorem ggL_law_X11_find : GoodIn wsL_law wsX11_find := goodIn_r _ [545, 45, 546, 257, 168, 547, 548, 549, 2, 550, 37, 15, 32, 551, 552, 553, 554, 36, 555, 556, 557, 95, 558, 559, 560, 561, 562, 563, 564, 565, 17, 566, 55, 567, 568, 569, 570, 571, 572, 573, 574, 575, 576, 577, 578, 31, 579, 580, 581, 91, 582, 583, 584, 585, 586, 328, 88, 89, 587, 588, 589, 590, 591, 592, 593, 594, 595, 596, 90, 597, 598, 599, 44, 600, 601, 108, 109, 925, 926, 927, 928, 929, 930, 931, 932, 933, 934, 935, 936, 937, 938, 939, 940, 1016, 1017, 1018, 1004, 1005, 982, 983, 984, 996, 997, 998, 999, 1000, 1001, 1002, 1003] rfl (by decide +kernel)
set_option maxRecDepth 100000 in
theorem gL_law_X11_find : GoodIn wsL_law (wsV RL 62 RX11 yX11_find wsX11_find) := goodIn_app (goodIn_of _ (by decide +kernel)) ggL_law_X11_find
set_option maxRecDepth 100000 in
theorem ggL_law_X12_find_ : GoodIn wsL_law wsX12_find_ := goodIn_r _ [605, 173, 606, 174, 148, 607, 608, 609, 610, 5, 611, 141, 139, 140, 149, 612, 613, 614, 615, 616, 617, 618, 146, 147, 145, 619, 620, 621, 622, 623, 624, 625, 626, 627, 628, 629, 630, 631, 150, 387, 388, 389, 390, 941, 942, 943, 944, 945, 946, 947, 948, 949, 950, 951, 952, 953, 954, 955, 956, 957, 958, 959, 960, 961, 962, 963, 964, 965, 966, 967, 968, 969, 970, 971, 972, 973, 974, 975, 976, 977, 978, 979, 980, 981] rfl (by decide +kernel)
set_option maxRecDepth 100000 in
theorem gL_law_X12_find_ : GoodIn wsL_law (wsV RL 66 RX12 yX12_find_ wsX12_find_) := goodIn_app (goodIn_of _ (by decide +kernel)) ggL_law_X12_find_
set_option maxRecDepth 100000 in
theorem ggL_law_X11_near : GoodIn wsL_law wsX11_near := goodIn_r _ [635, 45, 546, 168, 41, 20, 18, 15, 636, 637, 638, 40, 639, 640, 434, 431, 435, 102, 641, 642, 643, 644, 17, 645, 191, 56, 646, 647, 648, 649, 650, 651, 652, 653, 654, 655, 656, 657, 58, 59, 60, 658, 659, 660, 661, 662, 100, 103, 663, 664, 665, 666, 667, 668, 669, 670, 101, 671, 672, 673, 674, 675, 676, 677, 678, 679, 680, 681, 682, 683, 684, 685, 686, 687, 688, 689, 690, 691, 692, 693, 694, 695, 696, 697, 698, 2, 699, 186, 700, 701, 702, 703, 704, 705, 706, 707, 708, 709, 710, 711, 597, 598, 599, 44, 600, 601, 108, 109, 925, 926, 927, 928, 929, 930, 931, 932, 933, 934, 935, 936, 937, 938, 939, 940, 1016, 1017, 1018, 1006, 1007, 1008, 1009, 1010, 1011, 1012, 1013, 1014, 1015, 982, 983, 984] rfl (by decide +kernel)
set_option maxRecDepth 100000 in
theorem gL_law_X11_near : GoodIn wsL_law (wsV RL 67 RX11 yX11_near wsX11_near) := goodIn_app (goodIn_of _ (by decide +kernel)) ggL_law_X11_near
set_option maxRecDepth 100000 in
theorem ggL_law_X12_near : GoodIn wsL_law wsX12_near := goodIn_r _ [715, 173, 606, 141, 174, 154, 716, 152, 155, 153, 156, 717, 718, 719, 5, 720, 142, 140, 721, 677, 431, 678, 722, 723, 724, 725, 726, 727, 728, 729, 139, 628, 629, 630, 631, 150, 387, 388, 389, 390, 941, 942, 943, 944, 945, 946, 947, 948, 949, 950, 951, 952, 953, 954, 955, 956, 957, 958, 959, 960, 961, 962, 963, 964, 965, 966, 967, 968, 969, 970, 971, 972, 973, 974, 975, 976, 977, 978, 979, 980, 981] rfl (by decide +kernel)
set_option maxRecDepth 100000 in
theorem gL_law_X12_near : GoodIn wsL_law (wsV RL 70 RX12 yX12_near wsX12_near) := goodIn_app (goodIn_of _ (by decide +kernel)) ggL_law_X12_near
set_option maxRecDepth 100000 in
theorem ggL_law_L_found : GoodIn wsL_law wsL_found := goodIn_ca (goodIn_r _ [733, 734, 735, 736, 737, 2, 738, 739, 740, 45, 546, 741, 742, 743, 44, 744, 108, 109, 925, 926, 927, 928, 929, 930, 931, 932, 933, 934, 935, 936, 937, 938, 939, 940, 1016, 1017, 1018] rfl (by decide +kernel)) (goodIn_sub (fun _ h => List.mem_append_left _ (List.mem_append_right _ h)) (by decide +kernel))
