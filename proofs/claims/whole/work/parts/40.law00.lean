set_option maxRecDepth 100000 in
theorem ggL_found_X11_found : GoodIn wsL_found wsX11_found := goodIn_ca (goodIn_r _ [6, 7, 8, 9, 10, 11, 12, 13, 14, 15, 16, 17, 18, 19, 20, 21, 22, 23, 24, 25, 26, 27, 28, 29, 30, 31, 32, 33, 34, 35, 36] rfl (by decide +kernel)) (goodIn_sub (fun _ h => List.mem_cons_of_mem _ (List.mem_append_right _ h)) (by decide +kernel))
set_option maxRecDepth 100000 in
theorem gL_found_X11_found : GoodIn wsL_found (wsV RL 7 RX11 yX11_found wsX11_found) := goodIn_app (goodIn_of _ (by decide +kernel)) ggL_found_X11_found
theorem dL_found_0 : decode cL_found 0 = .ok (.aload_n 3, 1) := by decide +kernel
theorem dL_found_1 : decode cL_found 1 = .ok (.iconst 0, 1) := by decide +kernel
theorem dL_found_2 : decode cL_found 2 = .ok (.aload_n 0, 1) := by decide +kernel
theorem dL_found_3 : decode cL_found 3 = .ok (.iload_n 1, 1) := by decide +kernel
theorem dL_found_4 : decode cL_found 4 = .ok (.iload_n 2, 1) := by decide +kernel
theorem dL_found_5 : decode cL_found 5 = .ok (.invokevirtual 7, 3) := by decide +kernel
theorem dL_found_8 : decode cL_found 8 = .ok (.i2l, 1) := by decide +kernel
theorem dL_found_9 : decode cL_found 9 = .ok (.lastore, 1) := by decide +kernel
theorem dL_found_10 : decode cL_found 10 = .ok (.goto 7, 3) := by decide +kernel
theorem dL_found_13 : decode cL_found 13 = .ok (.astore 4, 2) := by decide +kernel
theorem dL_found_15 : decode cL_found 15 = .ok (.iconst 1, 1) := by decide +kernel
theorem dL_found_16 : decode cL_found 16 = .ok (.ireturn, 1) := by decide +kernel
theorem dL_found_17 : decode cL_found 17 = .ok (.iconst 0, 1) := by decide +kernel
theorem dL_found_18 : decode cL_found 18 = .ok (.ireturn, 1) := by decide +kernel
set_option maxRecDepth 100000 in
theorem ggL_share_X11_share : GoodIn wsL_share wsX11_share := goodIn_ca (goodIn_ca (goodIn_r _ [7, 8, 9, 10, 11, 12, 13, 14, 15, 16, 17, 18, 6, 19, 20, 21, 22, 23, 24, 25, 26, 27, 28, 29, 30, 31, 32, 33, 34, 35, 36, 37, 38, 39, 40, 41, 42, 43, 44, 45, 46, 47, 48, 49, 50, 51, 52, 53, 54, 55, 56, 57, 58, 59, 60, 61, 62, 63, 64, 65, 66, 67, 68, 69, 70, 71, 72, 73, 74, 75, 76, 77, 78, 79, 80, 81, 82, 83, 84, 85, 86, 87, 88, 89, 90, 91, 92, 93, 94, 95, 96, 97, 98, 99, 100, 101, 102, 103, 104, 105, 106, 107, 108, 109, 110, 111, 112, 113, 114, 115, 116, 117, 118, 119, 120, 121, 122, 123, 124, 125, 126, 127, 128, 129, 130, 131, 132, 133, 134, 135, 136, 137, 138, 139, 140, 141, 142, 143, 144, 145, 146, 147, 148, 149, 150, 151] rfl (by decide +kernel)) (goodIn_sub (fun _ h => List.mem_cons_of_mem _ (List.mem_append_left _ (List.mem_append_right _ h))) (by decide +kernel))) (goodIn_sub (fun _ h => List.mem_cons_of_mem _ (List.mem_append_right _ h)) (by decide +kernel))
set_option maxRecDepth 100000 in
theorem gL_share_X11_share : GoodIn wsL_share (wsV RL 15 RX11 yX11_share wsX11_share) := goodIn_app (goodIn_of _ (by decide +kernel)) ggL_share_X11_share
theorem dL_share_0 : decode cL_share 0 = .ok (.aload_n 3, 1) := by decide +kernel
theorem dL_share_1 : decode cL_share 1 = .ok (.iconst 0, 1) := by decide +kernel
theorem dL_share_2 : decode cL_share 2 = .ok (.aload_n 0, 1) := by decide +kernel
theorem dL_share_3 : decode cL_share 3 = .ok (.iload_n 1, 1) := by decide +kernel
theorem dL_share_4 : decode cL_share 4 = .ok (.iload_n 2, 1) := by decide +kernel
theorem dL_share_5 : decode cL_share 5 = .ok (.invokevirtual 15, 3) := by decide +kernel
theorem dL_share_8 : decode cL_share 8 = .ok (.lastore, 1) := by decide +kernel
theorem dL_share_9 : decode cL_share 9 = .ok (.goto 11, 3) := by decide +kernel
theorem dL_share_12 : decode cL_share 12 = .ok (.astore 4, 2) := by decide +kernel
theorem dL_share_14 : decode cL_share 14 = .ok (.iconst 1, 1) := by decide +kernel
theorem dL_share_15 : decode cL_share 15 = .ok (.ireturn, 1) := by decide +kernel
theorem dL_share_16 : decode cL_share 16 = .ok (.astore 4, 2) := by decide +kernel
theorem dL_share_18 : decode cL_share 18 = .ok (.iconst 2, 1) := by decide +kernel
theorem dL_share_19 : decode cL_share 19 = .ok (.ireturn, 1) := by decide +kernel
theorem dL_share_20 : decode cL_share 20 = .ok (.iconst 0, 1) := by decide +kernel
theorem dL_share_21 : decode cL_share 21 = .ok (.ireturn, 1) := by decide +kernel
