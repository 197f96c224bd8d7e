/-! ===== BEGIN names of the law's own gapOf and targetOf ===== -/
set_option maxRecDepth 20000 in
theorem ggL_gapOf_X10_gapOf : GoodIn wsL_gapOf wsX10_gapOf := goodIn_ca (goodIn_r _ [6, 7, 8, 9, 10, 11, 12, 13, 14, 15, 16, 17, 18, 19, 5, 20, 21, 22, 23, 24, 25, 26, 27, 28, 29, 30, 31, 32, 33, 34, 35, 36, 37, 38, 39, 40, 41, 42, 43, 44, 45, 46, 47, 48, 49, 50, 51, 52, 53, 54, 55, 56, 57, 58, 59, 60, 61, 62, 63, 64, 65, 66, 67, 68, 69, 70, 71, 72, 73, 74, 75, 76, 77, 78, 79, 80, 81, 82, 83, 84, 85, 86, 87, 88, 89, 90, 91, 92, 93, 94, 95, 96, 97, 98, 99, 100, 101, 102, 103, 104, 105, 106, 107, 108, 109] (by decide +kernel) (by decide +kernel)) (goodIn_sub (fun _ h => List.mem_cons_of_mem _ (List.mem_append_right _ h)) (by decide +kernel))
set_option maxRecDepth 20000 in
theorem gL_gapOf_X10_gapOf : GoodIn wsL_gapOf (wsV RL 7 RX10 yX10_gapOf wsX10_gapOf) := goodIn_app (goodIn_of _ (by decide +kernel)) ggL_gapOf_X10_gapOf
theorem dL_gapOf_0 : decode cL_gapOf 0 = .ok (.aload_n 3, 1) := by decide +kernel
theorem dL_gapOf_1 : decode cL_gapOf 1 = .ok (.iconst 0, 1) := by decide +kernel
theorem dL_gapOf_2 : decode cL_gapOf 2 = .ok (.aload_n 0, 1) := by decide +kernel
theorem dL_gapOf_3 : decode cL_gapOf 3 = .ok (.iload_n 1, 1) := by decide +kernel
theorem dL_gapOf_4 : decode cL_gapOf 4 = .ok (.iload_n 2, 1) := by decide +kernel
theorem dL_gapOf_5 : decode cL_gapOf 5 = .ok (.invokevirtual 7, 3) := by decide +kernel
theorem dL_gapOf_8 : decode cL_gapOf 8 = .ok (.i2l, 1) := by decide +kernel
theorem dL_gapOf_9 : decode cL_gapOf 9 = .ok (.lastore, 1) := by decide +kernel
theorem dL_gapOf_10 : decode cL_gapOf 10 = .ok (.goto 7, 3) := by decide +kernel
theorem dL_gapOf_13 : decode cL_gapOf 13 = .ok (.astore 4, 2) := by decide +kernel
theorem dL_gapOf_15 : decode cL_gapOf 15 = .ok (.iconst 1, 1) := by decide +kernel
theorem dL_gapOf_16 : decode cL_gapOf 16 = .ok (.ireturn, 1) := by decide +kernel
theorem dL_gapOf_17 : decode cL_gapOf 17 = .ok (.iconst 0, 1) := by decide +kernel
theorem dL_gapOf_18 : decode cL_gapOf 18 = .ok (.ireturn, 1) := by decide +kernel
set_option maxRecDepth 20000 in
theorem ggL_targetOf_X10_targetOf : GoodIn wsL_targetOf wsX10_targetOf := goodIn_ca (goodIn_r _ [6, 7, 8, 9, 10, 11, 12, 13, 14, 15, 16, 17, 18, 19, 20, 21, 5, 22, 23, 24, 25, 26, 27, 28, 29, 30, 31, 32, 33, 34, 35, 36, 37, 38, 39, 40, 41, 42, 43, 44, 45, 46, 47, 48, 49, 50, 51, 52, 53, 54, 55, 56, 57, 58, 59, 60, 61, 62, 63, 64, 65, 66, 67, 68, 69, 70, 71, 72, 73, 74, 75, 76, 77, 78, 79, 80, 81, 82, 83, 84, 85, 86, 87, 88, 89, 90, 91, 92, 93, 94, 95, 96, 97, 98, 99, 100, 101, 102, 103, 104, 105, 106, 107, 108, 109, 110, 111, 112, 113, 114, 115, 116, 117, 118, 119, 120, 121, 122, 123, 124, 125, 126, 127, 128, 129] (by decide +kernel) (by decide +kernel)) (goodIn_sub (fun _ h => List.mem_cons_of_mem _ (List.mem_append_right _ h)) (by decide +kernel))
set_option maxRecDepth 20000 in
theorem gL_targetOf_X10_targetOf : GoodIn wsL_targetOf (wsV RL 15 RX10 yX10_targetOf wsX10_targetOf) := goodIn_app (goodIn_of _ (by decide +kernel)) ggL_targetOf_X10_targetOf
theorem dL_targetOf_0 : decode cL_targetOf 0 = .ok (.aload_n 3, 1) := by decide +kernel
theorem dL_targetOf_1 : decode cL_targetOf 1 = .ok (.iconst 0, 1) := by decide +kernel
theorem dL_targetOf_2 : decode cL_targetOf 2 = .ok (.aload_n 0, 1) := by decide +kernel
theorem dL_targetOf_3 : decode cL_targetOf 3 = .ok (.iload_n 1, 1) := by decide +kernel
theorem dL_targetOf_4 : decode cL_targetOf 4 = .ok (.iload_n 2, 1) := by decide +kernel
theorem dL_targetOf_5 : decode cL_targetOf 5 = .ok (.invokevirtual 15, 3) := by decide +kernel
theorem dL_targetOf_8 : decode cL_targetOf 8 = .ok (.i2l, 1) := by decide +kernel
theorem dL_targetOf_9 : decode cL_targetOf 9 = .ok (.lastore, 1) := by decide +kernel
theorem dL_targetOf_10 : decode cL_targetOf 10 = .ok (.goto 7, 3) := by decide +kernel
theorem dL_targetOf_13 : decode cL_targetOf 13 = .ok (.astore 4, 2) := by decide +kernel
theorem dL_targetOf_15 : decode cL_targetOf 15 = .ok (.iconst 1, 1) := by decide +kernel
theorem dL_targetOf_16 : decode cL_targetOf 16 = .ok (.ireturn, 1) := by decide +kernel
theorem dL_targetOf_17 : decode cL_targetOf 17 = .ok (.iconst 0, 1) := by decide +kernel
theorem dL_targetOf_18 : decode cL_targetOf 18 = .ok (.ireturn, 1) := by decide +kernel
/-! ===== END ===== -/
