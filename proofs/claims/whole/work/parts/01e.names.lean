theorem dX11_settingOf_82 : decode cX11_settingOf 82 = .ok (.goto 4, 3) := by decide +kernel
theorem dX11_settingOf_85 : decode cX11_settingOf 85 = .ok (.iconst (-1), 1) := by decide +kernel
theorem dX11_settingOf_86 : decode cX11_settingOf 86 = .ok (.ireturn, 1) := by decide +kernel
theorem dX11_hasGap_0 : decode cX11_hasGap 0 = .ok (.iconst 0, 1) := by decide +kernel
theorem dX11_hasGap_1 : decode cX11_hasGap 1 = .ok (.istore_n 2, 1) := by decide +kernel
theorem dX11_hasGap_2 : decode cX11_hasGap 2 = .ok (.iload_n 2, 1) := by decide +kernel
theorem dX11_hasGap_3 : decode cX11_hasGap 3 = .ok (.aload_n 0, 1) := by decide +kernel
theorem dX11_hasGap_4 : decode cX11_hasGap 4 = .ok (.iconst 0, 1) := by decide +kernel
theorem dX11_hasGap_5 : decode cX11_hasGap 5 = .ok (.iaload, 1) := by decide +kernel
theorem dX11_hasGap_6 : decode cX11_hasGap 6 = .ok (.if_icmp .ge 20, 3) := by decide +kernel
theorem dX11_hasGap_9 : decode cX11_hasGap 9 = .ok (.aload_n 0, 1) := by decide +kernel
theorem dX11_hasGap_10 : decode cX11_hasGap 10 = .ok (.iconst 1, 1) := by decide +kernel
theorem dX11_hasGap_11 : decode cX11_hasGap 11 = .ok (.iload_n 2, 1) := by decide +kernel
theorem dX11_hasGap_12 : decode cX11_hasGap 12 = .ok (.iadd, 1) := by decide +kernel
theorem dX11_hasGap_13 : decode cX11_hasGap 13 = .ok (.iaload, 1) := by decide +kernel
theorem dX11_hasGap_14 : decode cX11_hasGap 14 = .ok (.iload_n 1, 1) := by decide +kernel
theorem dX11_hasGap_15 : decode cX11_hasGap 15 = .ok (.if_icmp .ne 5, 3) := by decide +kernel
theorem dX11_hasGap_18 : decode cX11_hasGap 18 = .ok (.iconst 1, 1) := by decide +kernel
theorem dX11_hasGap_19 : decode cX11_hasGap 19 = .ok (.ireturn, 1) := by decide +kernel
theorem dX11_hasGap_20 : decode cX11_hasGap 20 = .ok (.iinc 2 1, 3) := by decide +kernel
theorem dX11_hasGap_23 : decode cX11_hasGap 23 = .ok (.goto (-21), 3) := by decide +kernel
theorem dX11_hasGap_26 : decode cX11_hasGap 26 = .ok (.iconst 0, 1) := by decide +kernel
theorem dX11_hasGap_27 : decode cX11_hasGap 27 = .ok (.ireturn, 1) := by decide +kernel
theorem dX11_putsGap_0 : decode cX11_putsGap 0 = .ok (.aload_n 0, 1) := by decide +kernel
theorem dX11_putsGap_1 : decode cX11_putsGap 1 = .ok (.iconst 0, 1) := by decide +kernel
theorem dX11_putsGap_2 : decode cX11_putsGap 2 = .ok (.iaload, 1) := by decide +kernel
theorem dX11_putsGap_3 : decode cX11_putsGap 3 = .ok (.istore_n 2, 1) := by decide +kernel
theorem dX11_putsGap_4 : decode cX11_putsGap 4 = .ok (.iload_n 2, 1) := by decide +kernel
theorem dX11_putsGap_5 : decode cX11_putsGap 5 = .ok (.ifCond .le 32, 3) := by decide +kernel
theorem dX11_putsGap_8 : decode cX11_putsGap 8 = .ok (.aload_n 0, 1) := by decide +kernel
theorem dX11_putsGap_9 : decode cX11_putsGap 9 = .ok (.iconst 1, 1) := by decide +kernel
theorem dX11_putsGap_10 : decode cX11_putsGap 10 = .ok (.iload_n 2, 1) := by decide +kernel
theorem dX11_putsGap_11 : decode cX11_putsGap 11 = .ok (.iadd, 1) := by decide +kernel
theorem dX11_putsGap_12 : decode cX11_putsGap 12 = .ok (.iconst 1, 1) := by decide +kernel
theorem dX11_putsGap_13 : decode cX11_putsGap 13 = .ok (.isub, 1) := by decide +kernel
theorem dX11_putsGap_14 : decode cX11_putsGap 14 = .ok (.iaload, 1) := by decide +kernel
theorem dX11_putsGap_15 : decode cX11_putsGap 15 = .ok (.iload_n 1, 1) := by decide +kernel
theorem dX11_putsGap_16 : decode cX11_putsGap 16 = .ok (.if_icmp .le 21, 3) := by decide +kernel
theorem dX11_putsGap_19 : decode cX11_putsGap 19 = .ok (.aload_n 0, 1) := by decide +kernel
theorem dX11_putsGap_20 : decode cX11_putsGap 20 = .ok (.iconst 1, 1) := by decide +kernel
theorem dX11_putsGap_21 : decode cX11_putsGap 21 = .ok (.iload_n 2, 1) := by decide +kernel
theorem dX11_putsGap_22 : decode cX11_putsGap 22 = .ok (.iadd, 1) := by decide +kernel
theorem dX11_putsGap_23 : decode cX11_putsGap 23 = .ok (.aload_n 0, 1) := by decide +kernel
theorem dX11_putsGap_24 : decode cX11_putsGap 24 = .ok (.iconst 1, 1) := by decide +kernel
theorem dX11_putsGap_25 : decode cX11_putsGap 25 = .ok (.iload_n 2, 1) := by decide +kernel
theorem dX11_putsGap_26 : decode cX11_putsGap 26 = .ok (.iadd, 1) := by decide +kernel
theorem dX11_putsGap_27 : decode cX11_putsGap 27 = .ok (.iconst 1, 1) := by decide +kernel
theorem dX11_putsGap_28 : decode cX11_putsGap 28 = .ok (.isub, 1) := by decide +kernel
theorem dX11_putsGap_29 : decode cX11_putsGap 29 = .ok (.iaload, 1) := by decide +kernel
theorem dX11_putsGap_30 : decode cX11_putsGap 30 = .ok (.iastore, 1) := by decide +kernel
theorem dX11_putsGap_31 : decode cX11_putsGap 31 = .ok (.iinc 2 (-1), 3) := by decide +kernel
theorem dX11_putsGap_34 : decode cX11_putsGap 34 = .ok (.goto (-30), 3) := by decide +kernel
theorem dX11_putsGap_37 : decode cX11_putsGap 37 = .ok (.aload_n 0, 1) := by decide +kernel
theorem dX11_putsGap_38 : decode cX11_putsGap 38 = .ok (.iconst 1, 1) := by decide +kernel
theorem dX11_putsGap_39 : decode cX11_putsGap 39 = .ok (.iload_n 2, 1) := by decide +kernel
theorem dX11_putsGap_40 : decode cX11_putsGap 40 = .ok (.iadd, 1) := by decide +kernel
theorem dX11_putsGap_41 : decode cX11_putsGap 41 = .ok (.iload_n 1, 1) := by decide +kernel
theorem dX11_putsGap_42 : decode cX11_putsGap 42 = .ok (.iastore, 1) := by decide +kernel
theorem dX11_putsGap_43 : decode cX11_putsGap 43 = .ok (.aload_n 0, 1) := by decide +kernel
theorem dX11_putsGap_44 : decode cX11_putsGap 44 = .ok (.iconst 0, 1) := by decide +kernel
theorem dX11_putsGap_45 : decode cX11_putsGap 45 = .ok (.dup2, 1) := by decide +kernel
theorem dX11_putsGap_46 : decode cX11_putsGap 46 = .ok (.iaload, 1) := by decide +kernel
theorem dX11_putsGap_47 : decode cX11_putsGap 47 = .ok (.iconst 1, 1) := by decide +kernel
theorem dX11_putsGap_48 : decode cX11_putsGap 48 = .ok (.iadd, 1) := by decide +kernel
theorem dX11_putsGap_49 : decode cX11_putsGap 49 = .ok (.iastore, 1) := by decide +kernel
theorem dX11_putsGap_50 : decode cX11_putsGap 50 = .ok (.return_, 1) := by decide +kernel
set_option maxRecDepth 20000 in
theorem ggX11_gapLine_X11_isBad : GoodIn wsX11_gapLine wsX11_isBad := goodIn_r _ [8, 9, 10, 43, 44, 45, 46, 47, 48, 49, 50, 51, 52, 53, 54, 55, 56, 57, 58, 59, 60, 61, 62, 63, 64, 65, 66, 67, 68, 69, 70, 71, 72] (by decide +kernel) (by decide +kernel)
set_option maxRecDepth 20000 in
theorem gX11_gapLine_X11_isBad : GoodIn wsX11_gapLine (wsV RX11 119 RX11 yX11_isBad wsX11_isBad) := goodIn_app (goodIn_of _ (by decide +kernel)) ggX11_gapLine_X11_isBad
set_option maxRecDepth 20000 in
theorem ggX11_gapLine_X11_token : GoodIn wsX11_gapLine wsX11_token := goodIn_r _ [14, 15, 2, 16, 17, 18, 19, 20, 21, 7, 22, 23, 24, 25, 26, 27, 43, 44, 45, 46, 47, 48, 49, 50, 51, 52, 53, 54, 55, 56, 57, 58, 59, 60, 61, 62, 63, 64, 65, 66, 67, 68, 69, 70, 71, 72] (by decide +kernel) (by decide +kernel)
set_option maxRecDepth 20000 in
theorem gX11_gapLine_X11_token : GoodIn wsX11_gapLine (wsV RX11 123 RX11 yX11_token wsX11_token) := goodIn_app (goodIn_of _ (by decide +kernel)) ggX11_gapLine_X11_token
set_option maxRecDepth 20000 in
theorem ggX11_gapLine_X11_takes : GoodIn wsX11_gapLine wsX11_takes := goodIn_r _ [31, 17, 18, 3, 2, 32, 33, 34, 7, 35, 36, 25, 26, 27, 4, 5, 6, 8, 9, 10, 11, 12, 13, 14, 15, 16, 19, 20, 21, 22, 23, 24, 43, 44, 45, 46, 47, 48, 49, 50, 51, 52, 53, 54, 55, 56, 57, 58, 59, 60, 61, 62, 63, 64, 65, 66, 67, 68, 69, 70, 71, 72] (by decide +kernel) (by decide +kernel)
set_option maxRecDepth 20000 in
theorem gX11_gapLine_X11_takes : GoodIn wsX11_gapLine (wsV RX11 140 RX11 yX11_takes wsX11_takes) := goodIn_app (goodIn_of _ (by decide +kernel)) ggX11_gapLine_X11_takes
set_option maxRecDepth 20000 in
theorem ggX11_gapLine_X11_hasGap : GoodIn wsX11_gapLine wsX11_hasGap := goodIn_r _ [39] (by decide +kernel) (by decide +kernel)
set_option maxRecDepth 20000 in
theorem gX11_gapLine_X11_hasGap : GoodIn wsX11_gapLine (va_wsS RX11 144 yX11_hasGap wsX11_hasGap) := goodIn_app (goodIn_of _ (by decide +kernel)) ggX11_gapLine_X11_hasGap
set_option maxRecDepth 20000 in
theorem ggX11_gapLine_X11_putsGap : GoodIn wsX11_gapLine wsX11_putsGap := goodIn_r _ [42] (by decide +kernel) (by decide +kernel)
set_option maxRecDepth 20000 in
theorem gX11_gapLine_X11_putsGap : GoodIn wsX11_gapLine (va_wsS RX11 148 yX11_putsGap wsX11_putsGap) := goodIn_app (goodIn_of _ (by decide +kernel)) ggX11_gapLine_X11_putsGap
theorem dX11_gapLine_0 : decode cX11_gapLine 0 = .ok (.aload_n 0, 1) := by decide +kernel
theorem dX11_gapLine_1 : decode cX11_gapLine 1 = .ok (.getfield 24, 3) := by decide +kernel
theorem dX11_gapLine_4 : decode cX11_gapLine 4 = .ok (.iconst 0, 1) := by decide +kernel
theorem dX11_gapLine_5 : decode cX11_gapLine 5 = .ok (.iaload, 1) := by decide +kernel
theorem dX11_gapLine_6 : decode cX11_gapLine 6 = .ok (.iconst 5, 1) := by decide +kernel
theorem dX11_gapLine_7 : decode cX11_gapLine 7 = .ok (.if_icmp .ne 12, 3) := by decide +kernel
theorem dX11_gapLine_10 : decode cX11_gapLine 10 = .ok (.aload_n 0, 1) := by decide +kernel
theorem dX11_gapLine_11 : decode cX11_gapLine 11 = .ok (.iconst 4, 1) := by decide +kernel
theorem dX11_gapLine_12 : decode cX11_gapLine 12 = .ok (.aload_n 0, 1) := by decide +kernel
theorem dX11_gapLine_13 : decode cX11_gapLine 13 = .ok (.getfield 90, 3) := by decide +kernel
theorem dX11_gapLine_16 : decode cX11_gapLine 16 = .ok (.invokevirtual 119, 3) := by decide +kernel
theorem dX11_gapLine_19 : decode cX11_gapLine 19 = .ok (.aload_n 0, 1) := by decide +kernel
theorem dX11_gapLine_20 : decode cX11_gapLine 20 = .ok (.invokevirtual 123, 3) := by decide +kernel
theorem dX11_gapLine_23 : decode cX11_gapLine 23 = .ok (.aload_n 0, 1) := by decide +kernel
theorem dX11_gapLine_24 : decode cX11_gapLine 24 = .ok (.getfield 90, 3) := by decide +kernel
theorem dX11_gapLine_27 : decode cX11_gapLine 27 = .ok (.istore_n 1, 1) := by decide +kernel
theorem dX11_gapLine_28 : decode cX11_gapLine 28 = .ok (.aload_n 0, 1) := by decide +kernel
theorem dX11_gapLine_29 : decode cX11_gapLine 29 = .ok (.iconst 4, 1) := by decide +kernel
theorem dX11_gapLine_30 : decode cX11_gapLine 30 = .ok (.bipush 60, 2) := by decide +kernel
theorem dX11_gapLine_32 : decode cX11_gapLine 32 = .ok (.invokevirtual 140, 3) := by decide +kernel
theorem dX11_gapLine_35 : decode cX11_gapLine 35 = .ok (.ifCond .ne 5, 3) := by decide +kernel
theorem dX11_gapLine_38 : decode cX11_gapLine 38 = .ok (.iconst 0, 1) := by decide +kernel
theorem dX11_gapLine_39 : decode cX11_gapLine 39 = .ok (.ireturn, 1) := by decide +kernel
theorem dX11_gapLine_40 : decode cX11_gapLine 40 = .ok (.aload_n 0, 1) := by decide +kernel
theorem dX11_gapLine_41 : decode cX11_gapLine 41 = .ok (.getfield 24, 3) := by decide +kernel
theorem dX11_gapLine_44 : decode cX11_gapLine 44 = .ok (.aload_n 0, 1) := by decide +kernel
theorem dX11_gapLine_45 : decode cX11_gapLine 45 = .ok (.getfield 116, 3) := by decide +kernel
theorem dX11_gapLine_48 : decode cX11_gapLine 48 = .ok (.invokestatic 144, 3) := by decide +kernel
theorem dX11_gapLine_51 : decode cX11_gapLine 51 = .ok (.ifCond .eq 12, 3) := by decide +kernel
theorem dX11_gapLine_54 : decode cX11_gapLine 54 = .ok (.aload_n 0, 1) := by decide +kernel
theorem dX11_gapLine_55 : decode cX11_gapLine 55 = .ok (.iconst 3, 1) := by decide +kernel
theorem dX11_gapLine_56 : decode cX11_gapLine 56 = .ok (.iload_n 1, 1) := by decide +kernel
theorem dX11_gapLine_57 : decode cX11_gapLine 57 = .ok (.invokevirtual 119, 3) := by decide +kernel
theorem dX11_gapLine_60 : decode cX11_gapLine 60 = .ok (.goto 24, 3) := by decide +kernel
theorem dX11_gapLine_63 : decode cX11_gapLine 63 = .ok (.aload_n 0, 1) := by decide +kernel
theorem dX11_gapLine_64 : decode cX11_gapLine 64 = .ok (.getfield 24, 3) := by decide +kernel
theorem dX11_gapLine_67 : decode cX11_gapLine 67 = .ok (.iconst 0, 1) := by decide +kernel
theorem dX11_gapLine_68 : decode cX11_gapLine 68 = .ok (.iaload, 1) := by decide +kernel
theorem dX11_gapLine_69 : decode cX11_gapLine 69 = .ok (.iconst 5, 1) := by decide +kernel
theorem dX11_gapLine_70 : decode cX11_gapLine 70 = .ok (.if_icmp .ge 14, 3) := by decide +kernel
theorem dX11_gapLine_73 : decode cX11_gapLine 73 = .ok (.aload_n 0, 1) := by decide +kernel
theorem dX11_gapLine_74 : decode cX11_gapLine 74 = .ok (.getfield 24, 3) := by decide +kernel
theorem dX11_gapLine_77 : decode cX11_gapLine 77 = .ok (.aload_n 0, 1) := by decide +kernel
theorem dX11_gapLine_78 : decode cX11_gapLine 78 = .ok (.getfield 116, 3) := by decide +kernel
theorem dX11_gapLine_81 : decode cX11_gapLine 81 = .ok (.invokestatic 148, 3) := by decide +kernel
theorem dX11_gapLine_84 : decode cX11_gapLine 84 = .ok (.iconst 1, 1) := by decide +kernel
theorem dX11_gapLine_85 : decode cX11_gapLine 85 = .ok (.ireturn, 1) := by decide +kernel
set_option maxRecDepth 20000 in
theorem ggX11_targetLine_X11_isBad : GoodIn wsX11_targetLine wsX11_isBad := goodIn_r _ [8, 9, 10, 37, 38, 39, 40, 41, 42, 43, 44, 45, 46, 47, 48, 49, 50, 51, 52, 53, 54, 55, 56, 57, 58, 59, 60, 61, 62, 63, 64, 65, 66] (by decide +kernel) (by decide +kernel)
set_option maxRecDepth 20000 in
theorem gX11_targetLine_X11_isBad : GoodIn wsX11_targetLine (wsV RX11 119 RX11 yX11_isBad wsX11_isBad) := goodIn_app (goodIn_of _ (by decide +kernel)) ggX11_targetLine_X11_isBad
set_option maxRecDepth 20000 in
theorem ggX11_targetLine_X11_token : GoodIn wsX11_targetLine wsX11_token := goodIn_r _ [14, 15, 2, 16, 17, 18, 19, 20, 21, 7, 22, 23, 24, 25, 26, 27, 37, 38, 39, 40, 41, 42, 43, 44, 45, 46, 47, 48, 49, 50, 51, 52, 53, 54, 55, 56, 57, 58, 59, 60, 61, 62, 63, 64, 65, 66] (by decide +kernel) (by decide +kernel)
set_option maxRecDepth 20000 in
theorem gX11_targetLine_X11_token : GoodIn wsX11_targetLine (wsV RX11 123 RX11 yX11_token wsX11_token) := goodIn_app (goodIn_of _ (by decide +kernel)) ggX11_targetLine_X11_token
set_option maxRecDepth 20000 in
theorem ggX11_targetLine_X11_takes : GoodIn wsX11_targetLine wsX11_takes := goodIn_r _ [31, 17, 18, 3, 2, 32, 33, 34, 7, 35, 36, 25, 26, 27, 4, 5, 6, 8, 9, 10, 11, 12, 13, 14, 15, 16, 19, 20, 21, 22, 23, 24, 37, 38, 39, 40, 41, 42, 43, 44, 45, 46, 47, 48, 49, 50, 51, 52, 53, 54, 55, 56, 57, 58, 59, 60, 61, 62, 63, 64, 65, 66] (by decide +kernel) (by decide +kernel)
set_option maxRecDepth 20000 in
theorem gX11_targetLine_X11_takes : GoodIn wsX11_targetLine (wsV RX11 140 RX11 yX11_takes wsX11_takes) := goodIn_app (goodIn_of _ (by decide +kernel)) ggX11_targetLine_X11_takes
theorem dX11_targetLine_0 : decode cX11_targetLine 0 = .ok (.aload_n 0, 1) := by decide +kernel
theorem dX11_targetLine_1 : decode cX11_targetLine 1 = .ok (.getfield 24, 3) := by decide +kernel
theorem dX11_targetLine_4 : decode cX11_targetLine 4 = .ok (.bipush 13, 2) := by decide +kernel
theorem dX11_targetLine_6 : decode cX11_targetLine 6 = .ok (.iaload, 1) := by decide +kernel
theorem dX11_targetLine_7 : decode cX11_targetLine 7 = .ok (.bipush 8, 2) := by decide +kernel
theorem dX11_targetLine_9 : decode cX11_targetLine 9 = .ok (.if_icmp .ne 12, 3) := by decide +kernel
theorem dX11_targetLine_12 : decode cX11_targetLine 12 = .ok (.aload_n 0, 1) := by decide +kernel
theorem dX11_targetLine_13 : decode cX11_targetLine 13 = .ok (.iconst 4, 1) := by decide +kernel
theorem dX11_targetLine_14 : decode cX11_targetLine 14 = .ok (.aload_n 0, 1) := by decide +kernel
theorem dX11_targetLine_15 : decode cX11_targetLine 15 = .ok (.getfield 90, 3) := by decide +kernel
theorem dX11_targetLine_18 : decode cX11_targetLine 18 = .ok (.invokevirtual 119, 3) := by decide +kernel
theorem dX11_targetLine_21 : decode cX11_targetLine 21 = .ok (.aload_n 0, 1) := by decide +kernel
theorem dX11_targetLine_22 : decode cX11_targetLine 22 = .ok (.invokevirtual 123, 3) := by decide +kernel
theorem dX11_targetLine_25 : decode cX11_targetLine 25 = .ok (.aload_n 0, 1) := by decide +kernel
theorem dX11_targetLine_26 : decode cX11_targetLine 26 = .ok (.iconst 0, 1) := by decide +kernel
theorem dX11_targetLine_27 : decode cX11_targetLine 27 = .ok (.sipush 2999, 3) := by decide +kernel
theorem dX11_targetLine_30 : decode cX11_targetLine 30 = .ok (.invokevirtual 140, 3) := by decide +kernel
theorem dX11_targetLine_33 : decode cX11_targetLine 33 = .ok (.ifCond .ne 5, 3) := by decide +kernel
theorem dX11_targetLine_36 : decode cX11_targetLine 36 = .ok (.iconst 0, 1) := by decide +kernel
theorem dX11_targetLine_37 : decode cX11_targetLine 37 = .ok (.ireturn, 1) := by decide +kernel
theorem dX11_targetLine_38 : decode cX11_targetLine 38 = .ok (.aload_n 0, 1) := by decide +kernel
theorem dX11_targetLine_39 : decode cX11_targetLine 39 = .ok (.getfield 116, 3) := by decide +kernel
theorem dX11_targetLine_42 : decode cX11_targetLine 42 = .ok (.istore_n 2, 1) := by decide +kernel
theorem dX11_targetLine_43 : decode cX11_targetLine 43 = .ok (.aload_n 0, 1) := by decide +kernel
theorem dX11_targetLine_44 : decode cX11_targetLine 44 = .ok (.iconst 0, 1) := by decide +kernel
theorem dX11_targetLine_45 : decode cX11_targetLine 45 = .ok (.sipush 500, 3) := by decide +kernel
theorem dX11_targetLine_48 : decode cX11_targetLine 48 = .ok (.invokevirtual 140, 3) := by decide +kernel
theorem dX11_targetLine_51 : decode cX11_targetLine 51 = .ok (.ifCond .ne 5, 3) := by decide +kernel
theorem dX11_targetLine_54 : decode cX11_targetLine 54 = .ok (.iconst 0, 1) := by decide +kernel
theorem dX11_targetLine_55 : decode cX11_targetLine 55 = .ok (.ireturn, 1) := by decide +kernel
theorem dX11_targetLine_56 : decode cX11_targetLine 56 = .ok (.iload_n 1, 1) := by decide +kernel
theorem dX11_targetLine_57 : decode cX11_targetLine 57 = .ok (.aload_n 0, 1) := by decide +kernel
theorem dX11_targetLine_58 : decode cX11_targetLine 58 = .ok (.getfield 116, 3) := by decide +kernel
theorem dX11_targetLine_61 : decode cX11_targetLine 61 = .ok (.imul, 1) := by decide +kernel
theorem dX11_targetLine_62 : decode cX11_targetLine 62 = .ok (.istore_n 3, 1) := by decide +kernel
theorem dX11_targetLine_63 : decode cX11_targetLine 63 = .ok (.aload_n 0, 1) := by decide +kernel
theorem dX11_targetLine_64 : decode cX11_targetLine 64 = .ok (.iconst 1, 1) := by decide +kernel
theorem dX11_targetLine_65 : decode cX11_targetLine 65 = .ok (.bipush 99, 2) := by decide +kernel
theorem dX11_targetLine_67 : decode cX11_targetLine 67 = .ok (.invokevirtual 140, 3) := by decide +kernel
theorem dX11_targetLine_70 : decode cX11_targetLine 70 = .ok (.ifCond .ne 5, 3) := by decide +kernel
theorem dX11_targetLine_73 : decode cX11_targetLine 73 = .ok (.iconst 0, 1) := by decide +kernel
theorem dX11_targetLine_74 : decode cX11_targetLine 74 = .ok (.ireturn, 1) := by decide +kernel
theorem dX11_targetLine_75 : decode cX11_targetLine 75 = .ok (.aload_n 0, 1) := by decide +kernel
theorem dX11_targetLine_76 : decode cX11_targetLine 76 = .ok (.getfield 24, 3) := by decide +kernel
theorem dX11_targetLine_79 : decode cX11_targetLine 79 = .ok (.bipush 13, 2) := by decide +kernel
theorem dX11_targetLine_81 : decode cX11_targetLine 81 = .ok (.iaload, 1) := by decide +kernel
theorem dX11_targetLine_82 : decode cX11_targetLine 82 = .ok (.bipush 8, 2) := by decide +kernel
theorem dX11_targetLine_84 : decode cX11_targetLine 84 = .ok (.if_icmp .ge 64, 3) := by decide +kernel
theorem dX11_targetLine_87 : decode cX11_targetLine 87 = .ok (.bipush 14, 2) := by decide +kernel
theorem dX11_targetLine_89 : decode cX11_targetLine 89 = .ok (.iconst 3, 1) := by decide +kernel
theorem dX11_targetLine_90 : decode cX11_targetLine 90 = .ok (.aload_n 0, 1) := by decide +kernel
theorem dX11_targetLine_91 : decode cX11_targetLine 91 = .ok (.getfield 24, 3) := by decide +kernel
theorem dX11_targetLine_94 : decode cX11_targetLine 94 = .ok (.bipush 13, 2) := by decide +kernel
theorem dX11_targetLine_96 : decode cX11_targetLine 96 = .ok (.iaload, 1) := by decide +kernel
theorem dX11_targetLine_97 : decode cX11_targetLine 97 = .ok (.imul, 1) := by decide +kernel
theorem dX11_targetLine_98 : decode cX11_targetLine 98 = .ok (.iadd, 1) := by decide +kernel
theorem dX11_targetLine_99 : decode cX11_targetLine 99 = .ok (.istore 4, 2) := by decide +kernel
theorem dX11_targetLine_101 : decode cX11_targetLine 101 = .ok (.aload_n 0, 1) := by decide +kernel
theorem dX11_targetLine_102 : decode cX11_targetLine 102 = .ok (.getfield 24, 3) := by decide +kernel
theorem dX11_targetLine_105 : decode cX11_targetLine 105 = .ok (.iload 4, 2) := by decide +kernel
theorem dX11_targetLine_107 : decode cX11_targetLine 107 = .ok (.iconst 0, 1) := by decide +kernel
theorem dX11_targetLine_108 : decode cX11_targetLine 108 = .ok (.iadd, 1) := by decide +kernel
theorem dX11_targetLine_109 : decode cX11_targetLine 109 = .ok (.bipush 16, 2) := by decide +kernel
theorem dX11_targetLine_111 : decode cX11_targetLine 111 = .ok (.iload_n 2, 1) := by decide +kernel
theorem dX11_targetLine_112 : decode cX11_targetLine 112 = .ok (.imul, 1) := by decide +kernel
theorem dX11_targetLine_113 : decode cX11_targetLine 113 = .ok (.iastore, 1) := by decide +kernel
theorem dX11_targetLine_114 : decode cX11_targetLine 114 = .ok (.aload_n 0, 1) := by decide +kernel
theorem dX11_targetLine_115 : decode cX11_targetLine 115 = .ok (.getfield 24, 3) := by decide +kernel
theorem dX11_targetLine_118 : decode cX11_targetLine 118 = .ok (.iload 4, 2) := by decide +kernel
theorem dX11_targetLine_120 : decode cX11_targetLine 120 = .ok (.iconst 1, 1) := by decide +kernel
theorem dX11_targetLine_121 : decode cX11_targetLine 121 = .ok (.iadd, 1) := by decide +kernel
theorem dX11_targetLine_122 : decode cX11_targetLine 122 = .ok (.iload_n 3, 1) := by decide +kernel
theorem dX11_targetLine_123 : decode cX11_targetLine 123 = .ok (.iastore, 1) := by decide +kernel
theorem dX11_targetLine_124 : decode cX11_targetLine 124 = .ok (.aload_n 0, 1) := by decide +kernel
theorem dX11_targetLine_125 : decode cX11_targetLine 125 = .ok (.getfield 24, 3) := by decide +kernel
theorem dX11_targetLine_128 : decode cX11_targetLine 128 = .ok (.iload 4, 2) := by decide +kernel
theorem dX11_targetLine_130 : decode cX11_targetLine 130 = .ok (.iconst 2, 1) := by decide +kernel
theorem dX11_targetLine_131 : decode cX11_targetLine 131 = .ok (.iadd, 1) := by decide +kernel
theorem dX11_targetLine_132 : decode cX11_targetLine 132 = .ok (.aload_n 0, 1) := by decide +kernel
theorem dX11_targetLine_133 : decode cX11_targetLine 133 = .ok (.getfield 116, 3) := by decide +kernel
theorem dX11_targetLine_136 : decode cX11_targetLine 136 = .ok (.iastore, 1) := by decide +kernel
theorem dX11_targetLine_137 : decode cX11_targetLine 137 = .ok (.aload_n 0, 1) := by decide +kernel
theorem dX11_targetLine_138 : decode cX11_targetLine 138 = .ok (.getfield 24, 3) := by decide +kernel
theorem dX11_targetLine_141 : decode cX11_targetLine 141 = .ok (.bipush 13, 2) := by decide +kernel
theorem dX11_targetLine_143 : decode cX11_targetLine 143 = .ok (.dup2, 1) := by decide +kernel
theorem dX11_targetLine_144 : decode cX11_targetLine 144 = .ok (.iaload, 1) := by decide +kernel
theorem dX11_targetLine_145 : decode cX11_targetLine 145 = .ok (.iconst 1, 1) := by decide +kernel
theorem dX11_targetLine_146 : decode cX11_targetLine 146 = .ok (.iadd, 1) := by decide +kernel
theorem dX11_targetLine_147 : decode cX11_targetLine 147 = .ok (.iastore, 1) := by decide +kernel
theorem dX11_targetLine_148 : decode cX11_targetLine 148 = .ok (.iconst 1, 1) := by decide +kernel
theorem dX11_targetLine_149 : decode cX11_targetLine 149 = .ok (.ireturn, 1) := by decide +kernel
set_option maxRecDepth 20000 in
theorem ggX11_line_X11_gapLine : GoodIn wsX11_line wsX11_gapLine := goodIn_r _ [12, 6, 13, 7, 14, 15, 16, 11, 17, 18, 19, 20, 21, 22, 23, 24, 2, 1, 25, 26, 27, 28, 29, 30, 31, 32, 33, 34, 35, 36, 37, 38, 39, 40, 41, 42, 43, 44, 45, 46, 47, 48, 49, 70, 71, 72, 73, 74, 75, 76, 77, 78, 79, 80, 81, 82, 83, 84, 85, 86, 87, 88, 89, 90, 91, 92, 93, 94, 95, 96, 97, 98, 99] (by decide +kernel) (by decide +kernel)
set_option maxRecDepth 20000 in
theorem gX11_line_X11_gapLine : GoodIn wsX11_line (wsV RX11 154 RX11 yX11_gapLine wsX11_gapLine) := goodIn_app (goodIn_of _ (by decide +kernel)) ggX11_line_X11_gapLine
set_option maxRecDepth 20000 in
theorem ggX11_line_X11_targetLine : GoodIn wsX11_line wsX11_targetLine := goodIn_r _ [53, 6, 13, 7, 14, 15, 16, 11, 17, 18, 19, 20, 21, 22, 23, 24, 2, 1, 25, 26, 27, 28, 29, 30, 31, 32, 33, 34, 35, 36, 37, 38, 39, 40, 41, 42, 43, 70, 71, 72, 73, 74, 75, 76, 77, 78, 79, 80, 81, 82, 83, 84, 85, 86, 87, 88, 89, 90, 91, 92, 93, 94, 95, 96, 97, 98, 99] (by decide +kernel) (by decide +kernel)
set_option maxRecDepth 20000 in
theorem gX11_line_X11_targetLine : GoodIn wsX11_line (wsV RX11 161 RX11 yX11_targetLine wsX11_targetLine) := goodIn_app (goodIn_of _ (by decide +kernel)) ggX11_line_X11_targetLine
set_option maxRecDepth 20000 in
theorem ggX11_line_X11_settingOf : GoodIn wsX11_line wsX11_settingOf := goodIn_r _ [56, 57, 58, 59, 60, 61, 62, 63] (by decide +kernel) (by decide +kernel)
set_option maxRecDepth 20000 in
theorem gX11_line_X11_settingOf : GoodIn wsX11_line (va_wsS RX11 165 yX11_settingOf wsX11_settingOf) := goodIn_app (goodIn_of _ (by decide +kernel)) ggX11_line_X11_settingOf
set_option maxRecDepth 20000 in
theorem ggX11_line_X11_fails : GoodIn wsX11_line wsX11_fails := goodIn_r _ [42, 13, 43, 70, 71, 72, 73, 74, 75, 76, 77, 78, 79, 80, 81, 82, 83, 84, 85, 86, 87, 88, 89, 90, 91, 92, 93, 94, 95, 96, 97, 98, 99] (by decide +kernel) (by decide +kernel)
set_option maxRecDepth 20000 in
theorem gX11_line_X11_fails : GoodIn wsX11_line (wsV RX11 112 RX11 yX11_fails wsX11_fails) := goodIn_app (goodIn_of _ (by decide +kernel)) ggX11_line_X11_fails
set_option maxRecDepth 20000 in
theorem ggX11_line_X11_token : GoodIn wsX11_line wsX11_token := goodIn_r _ [23, 24, 13, 2, 1, 25, 26, 27, 28, 11, 29, 30, 31, 32, 33, 34, 70, 71, 72, 73, 74, 75, 76, 77, 78, 79, 80, 81, 82, 83, 84, 85, 86, 87, 88, 89, 90, 91, 92, 93, 94, 95, 96, 97, 98, 99] (by decide +kernel) (by decide +kernel)
set_option maxRecDepth 20000 in
theorem gX11_line_X11_token : GoodIn wsX11_line (wsV RX11 123 RX11 yX11_token wsX11_token) := goodIn_app (goodIn_of _ (by decide +kernel)) ggX11_line_X11_token
set_option maxRecDepth 20000 in
theorem ggX11_line_X11_leastOf : GoodIn wsX11_line wsX11_leastOf := goodIn_r _ [66] (by decide +kernel) (by decide +kernel)
set_option maxRecDepth 20000 in
theorem gX11_line_X11_leastOf : GoodIn wsX11_line (va_wsS RX11 169 yX11_leastOf wsX11_leastOf) := goodIn_app (goodIn_of _ (by decide +kernel)) ggX11_line_X11_leastOf
set_option maxRecDepth 20000 in
theorem ggX11_line_X11_mostOf : GoodIn wsX11_line wsX11_mostOf := goodIn_r _ [69] (by decide +kernel) (by decide +kernel)
set_option maxRecDepth 20000 in
theorem gX11_line_X11_mostOf : GoodIn wsX11_line (va_wsS RX11 173 yX11_mostOf wsX11_mostOf) := goodIn_app (goodIn_of _ (by decide +kernel)) ggX11_line_X11_mostOf
set_option maxRecDepth 20000 in
theorem ggX11_line_X11_takes : GoodIn wsX11_line wsX11_takes := goodIn_r _ [38, 1, 25, 7, 13, 39, 40, 41, 11, 42, 43, 32, 33, 34, 14, 15, 16, 17, 18, 19, 20, 21, 22, 23, 24, 2, 26, 27, 28, 29, 30, 31, 70, 71, 72, 73, 74, 75, 76, 77, 78, 79, 80, 81, 82, 83, 84, 85, 86, 87, 88, 89, 90, 91, 92, 93, 94, 95, 96, 97, 98, 99] (by decide +kernel) (by decide +kernel)
set_option maxRecDepth 20000 in
theorem gX11_line_X11_takes : GoodIn wsX11_line (wsV RX11 140 RX11 yX11_takes wsX11_takes) := goodIn_app (goodIn_of _ (by decide +kernel)) ggX11_line_X11_takes
theorem dX11_line_0 : decode cX11_line 0 = .ok (.aload_n 0, 1) := by decide +kernel
theorem dX11_line_1 : decode cX11_line 1 = .ok (.getfield 97, 3) := by decide +kernel
theorem dX11_line_4 : decode cX11_line 4 = .ok (.iconst 2, 1) := by decide +kernel
theorem dX11_line_5 : decode cX11_line 5 = .ok (.if_icmp .ne 10, 3) := by decide +kernel
theorem dX11_line_8 : decode cX11_line 8 = .ok (.aload_n 0, 1) := by decide +kernel
theorem dX11_line_9 : decode cX11_line 9 = .ok (.getfield 93, 3) := by decide +kernel
theorem dX11_line_12 : decode cX11_line 12 = .ok (.goto 4, 3) := by decide +kernel
theorem dX11_line_15 : decode cX11_line 15 = .ok (.lconst 0, 1) := by decide +kernel
theorem dX11_line_16 : decode cX11_line 16 = .ok (.lstore_n 1, 1) := by decide +kernel
theorem dX11_line_17 : decode cX11_line 17 = .ok (.lload_n 1, 1) := by decide +kernel
theorem dX11_line_18 : decode cX11_line 18 = .ok (.ldc2_w 152, 3) := by decide +kernel
theorem dX11_line_21 : decode cX11_line 21 = .ok (.lcmp, 1) := by decide +kernel
theorem dX11_line_22 : decode cX11_line 22 = .ok (.ifCond .ne 8, 3) := by decide +kernel
theorem dX11_line_25 : decode cX11_line 25 = .ok (.aload_n 0, 1) := by decide +kernel
theorem dX11_line_26 : decode cX11_line 26 = .ok (.invokevirtual 154, 3) := by decide +kernel
theorem dX11_line_29 : decode cX11_line 29 = .ok (.ireturn, 1) := by decide +kernel
theorem dX11_line_30 : decode cX11_line 30 = .ok (.lload_n 1, 1) := by decide +kernel
theorem dX11_line_31 : decode cX11_line 31 = .ok (.ldc2_w 157, 3) := by decide +kernel
theorem dX11_line_34 : decode cX11_line 34 = .ok (.lcmp, 1) := by decide +kernel
theorem dX11_line_35 : decode cX11_line 35 = .ok (.ifCond .eq 11, 3) := by decide +kernel
theorem dX11_line_38 : decode cX11_line 38 = .ok (.lload_n 1, 1) := by decide +kernel
theorem dX11_line_39 : decode cX11_line 39 = .ok (.ldc2_w 159, 3) := by decide +kernel
theorem dX11_line_42 : decode cX11_line 42 = .ok (.lcmp, 1) := by decide +kernel
theorem dX11_line_43 : decode cX11_line 43 = .ok (.ifCond .ne 21, 3) := by decide +kernel
theorem dX11_line_46 : decode cX11_line 46 = .ok (.aload_n 0, 1) := by decide +kernel
theorem dX11_line_47 : decode cX11_line 47 = .ok (.lload_n 1, 1) := by decide +kernel
theorem dX11_line_48 : decode cX11_line 48 = .ok (.ldc2_w 157, 3) := by decide +kernel
theorem dX11_line_51 : decode cX11_line 51 = .ok (.lcmp, 1) := by decide +kernel
theorem dX11_line_52 : decode cX11_line 52 = .ok (.ifCond .ne 7, 3) := by decide +kernel
theorem dX11_line_55 : decode cX11_line 55 = .ok (.iconst (-1), 1) := by decide +kernel
theorem dX11_line_56 : decode cX11_line 56 = .ok (.goto 4, 3) := by decide +kernel
theorem dX11_line_59 : decode cX11_line 59 = .ok (.iconst 1, 1) := by decide +kernel
theorem dX11_line_60 : decode cX11_line 60 = .ok (.invokevirtual 161, 3) := by decide +kernel
theorem dX11_line_63 : decode cX11_line 63 = .ok (.ireturn, 1) := by decide +kernel
theorem dX11_line_64 : decode cX11_line 64 = .ok (.lload_n 1, 1) := by decide +kernel
theorem dX11_line_65 : decode cX11_line 65 = .ok (.invokestatic 165, 3) := by decide +kernel
theorem dX11_line_68 : decode cX11_line 68 = .ok (.istore_n 3, 1) := by decide +kernel
theorem dX11_line_69 : decode cX11_line 69 = .ok (.iload_n 3, 1) := by decide +kernel
theorem dX11_line_70 : decode cX11_line 70 = .ok (.iconst (-1), 1) := by decide +kernel
theorem dX11_line_71 : decode cX11_line 71 = .ok (.if_icmp .ne 8, 3) := by decide +kernel
theorem dX11_line_74 : decode cX11_line 74 = .ok (.aload_n 0, 1) := by decide +kernel
theorem dX11_line_75 : decode cX11_line 75 = .ok (.invokevirtual 112, 3) := by decide +kernel
theorem dX11_line_78 : decode cX11_line 78 = .ok (.ireturn, 1) := by decide +kernel
theorem dX11_line_79 : decode cX11_line 79 = .ok (.aload_n 0, 1) := by decide +kernel
theorem dX11_line_80 : decode cX11_line 80 = .ok (.invokevirtual 123, 3) := by decide +kernel
theorem dX11_line_83 : decode cX11_line 83 = .ok (.aload_n 0, 1) := by decide +kernel
theorem dX11_line_84 : decode cX11_line 84 = .ok (.iload_n 3, 1) := by decide +kernel
theorem dX11_line_85 : decode cX11_line 85 = .ok (.invokestatic 169, 3) := by decide +kernel
theorem dX11_line_88 : decode cX11_line 88 = .ok (.iload_n 3, 1) := by decide +kernel
theorem dX11_line_89 : decode cX11_line 89 = .ok (.invokestatic 173, 3) := by decide +kernel
theorem dX11_line_92 : decode cX11_line 92 = .ok (.invokevirtual 140, 3) := by decide +kernel
theorem dX11_line_95 : decode cX11_line 95 = .ok (.istore 4, 2) := by decide +kernel
theorem dX11_line_97 : decode cX11_line 97 = .ok (.aload_n 0, 1) := by decide +kernel
theorem dX11_line_98 : decode cX11_line 98 = .ok (.getfield 24, 3) := by decide +kernel
theorem dX11_line_101 : decode cX11_line 101 = .ok (.bipush 6, 2) := by decide +kernel
theorem dX11_line_103 : decode cX11_line 103 = .ok (.iload_n 3, 1) := by decide +kernel
theorem dX11_line_104 : decode cX11_line 104 = .ok (.iadd, 1) := by decide +kernel
theorem dX11_line_105 : decode cX11_line 105 = .ok (.aload_n 0, 1) := by decide +kernel
theorem dX11_line_106 : decode cX11_line 106 = .ok (.getfield 116, 3) := by decide +kernel
theorem dX11_line_109 : decode cX11_line 109 = .ok (.iastore, 1) := by decide +kernel
theorem dX11_line_110 : decode cX11_line 110 = .ok (.iload 4, 2) := by decide +kernel
theorem dX11_line_112 : decode cX11_line 112 = .ok (.ireturn, 1) := by decide +kernel
theorem dX11_atFirst_0 : decode cX11_atFirst 0 = .ok (.iconst 0, 1) := by decide +kernel
theorem dX11_atFirst_1 : decode cX11_atFirst 1 = .ok (.istore_n 1, 1) := by decide +kernel
theorem dX11_atFirst_2 : decode cX11_atFirst 2 = .ok (.iload_n 1, 1) := by decide +kernel
theorem dX11_atFirst_3 : decode cX11_atFirst 3 = .ok (.bipush 97, 2) := by decide +kernel
theorem dX11_atFirst_5 : decode cX11_atFirst 5 = .ok (.if_icmp .ge 16, 3) := by decide +kernel
theorem dX11_atFirst_8 : decode cX11_atFirst 8 = .ok (.aload_n 0, 1) := by decide +kernel
theorem dX11_atFirst_9 : decode cX11_atFirst 9 = .ok (.getfield 24, 3) := by decide +kernel
theorem dX11_atFirst_12 : decode cX11_atFirst 12 = .ok (.iload_n 1, 1) := by decide +kernel
theorem dX11_atFirst_13 : decode cX11_atFirst 13 = .ok (.iconst 0, 1) := by decide +kernel
theorem dX11_atFirst_14 : decode cX11_atFirst 14 = .ok (.iastore, 1) := by decide +kernel
theorem dX11_atFirst_15 : decode cX11_atFirst 15 = .ok (.iinc 1 1, 3) := by decide +kernel
theorem dX11_atFirst_18 : decode cX11_atFirst 18 = .ok (.goto (-16), 3) := by decide +kernel
theorem dX11_atFirst_21 : decode cX11_atFirst 21 = .ok (.aload_n 0, 1) := by decide +kernel
theorem dX11_atFirst_22 : decode cX11_atFirst 22 = .ok (.getfield 24, 3) := by decide +kernel
theorem dX11_atFirst_25 : decode cX11_atFirst 25 = .ok (.bipush 6, 2) := by decide +kernel
theorem dX11_atFirst_27 : decode cX11_atFirst 27 = .ok (.bipush 60, 2) := by decide +kernel
theorem dX11_atFirst_29 : decode cX11_atFirst 29 = .ok (.iastore, 1) := by decide +kernel
theorem dX11_atFirst_30 : decode cX11_atFirst 30 = .ok (.aload_n 0, 1) := by decide +kernel
theorem dX11_atFirst_31 : decode cX11_atFirst 31 = .ok (.getfield 24, 3) := by decide +kernel
theorem dX11_atFirst_34 : decode cX11_atFirst 34 = .ok (.bipush 8, 2) := by decide +kernel
theorem dX11_atFirst_36 : decode cX11_atFirst 36 = .ok (.iconst 1, 1) := by decide +kernel
theorem dX11_atFirst_37 : decode cX11_atFirst 37 = .ok (.iastore, 1) := by decide +kernel
theorem dX11_atFirst_38 : decode cX11_atFirst 38 = .ok (.aload_n 0, 1) := by decide +kernel
theorem dX11_atFirst_39 : decode cX11_atFirst 39 = .ok (.getfield 24, 3) := by decide +kernel
theorem dX11_atFirst_42 : decode cX11_atFirst 42 = .ok (.bipush 9, 2) := by decide +kernel
theorem dX11_atFirst_44 : decode cX11_atFirst 44 = .ok (.sipush 500, 3) := by decide +kernel
theorem dX11_atFirst_47 : decode cX11_atFirst 47 = .ok (.iastore, 1) := by decide +kernel
theorem dX11_atFirst_48 : decode cX11_atFirst 48 = .ok (.aload_n 0, 1) := by decide +kernel
theorem dX11_atFirst_49 : decode cX11_atFirst 49 = .ok (.getfield 24, 3) := by decide +kernel
theorem dX11_atFirst_52 : decode cX11_atFirst 52 = .ok (.bipush 10, 2) := by decide +kernel
theorem dX11_atFirst_54 : decode cX11_atFirst 54 = .ok (.iconst 2, 1) := by decide +kernel
theorem dX11_atFirst_55 : decode cX11_atFirst 55 = .ok (.iastore, 1) := by decide +kernel
theorem dX11_atFirst_56 : decode cX11_atFirst 56 = .ok (.aload_n 0, 1) := by decide +kernel
theorem dX11_atFirst_57 : decode cX11_atFirst 57 = .ok (.getfield 24, 3) := by decide +kernel
theorem dX11_atFirst_60 : decode cX11_atFirst 60 = .ok (.bipush 11, 2) := by decide +kernel
theorem dX11_atFirst_62 : decode cX11_atFirst 62 = .ok (.bipush 100, 2) := by decide +kernel
theorem dX11_atFirst_64 : decode cX11_atFirst 64 = .ok (.iastore, 1) := by decide +kernel
theorem dX11_atFirst_65 : decode cX11_atFirst 65 = .ok (.aload_n 0, 1) := by decide +kernel
theorem dX11_atFirst_66 : decode cX11_atFirst 66 = .ok (.getfield 24, 3) := by decide +kernel
theorem dX11_atFirst_69 : decode cX11_atFirst 69 = .ok (.bipush 12, 2) := by decide +kernel
theorem dX11_atFirst_71 : decode cX11_atFirst 71 = .ok (.iconst 1, 1) := by decide +kernel
theorem dX11_atFirst_72 : decode cX11_atFirst 72 = .ok (.iastore, 1) := by decide +kernel
theorem dX11_atFirst_73 : decode cX11_atFirst 73 = .ok (.aload_n 0, 1) := by decide +kernel
theorem dX11_atFirst_74 : decode cX11_atFirst 74 = .ok (.iconst 0, 1) := by decide +kernel
theorem dX11_atFirst_75 : decode cX11_atFirst 75 = .ok (.putfield 106, 3) := by decide +kernel
theorem dX11_atFirst_78 : decode cX11_atFirst 78 = .ok (.aload_n 0, 1) := by decide +kernel
theorem dX11_atFirst_79 : decode cX11_atFirst 79 = .ok (.iconst (-1), 1) := by decide +kernel
theorem dX11_atFirst_80 : decode cX11_atFirst 80 = .ok (.putfield 109, 3) := by decide +kernel
theorem dX11_atFirst_83 : decode cX11_atFirst 83 = .ok (.aload_n 0, 1) := by decide +kernel
theorem dX11_atFirst_84 : decode cX11_atFirst 84 = .ok (.iconst 0, 1) := by decide +kernel
theorem dX11_atFirst_85 : decode cX11_atFirst 85 = .ok (.putfield 80, 3) := by decide +kernel
theorem dX11_atFirst_88 : decode cX11_atFirst 88 = .ok (.return_, 1) := by decide +kernel
theorem dX11_taken_0 : decode cX11_taken 0 = .ok (.iconst 0, 1) := by decide +kernel
theorem dX11_taken_1 : decode cX11_taken 1 = .ok (.istore_n 1, 1) := by decide +kernel
theorem dX11_taken_2 : decode cX11_taken 2 = .ok (.iload_n 1, 1) := by decide +kernel
theorem dX11_taken_3 : decode cX11_taken 3 = .ok (.bipush 97, 2) := by decide +kernel
theorem dX11_taken_5 : decode cX11_taken 5 = .ok (.if_icmp .ge 21, 3) := by decide +kernel
theorem dX11_taken_8 : decode cX11_taken 8 = .ok (.aload_n 0, 1) := by decide +kernel
theorem dX11_taken_9 : decode cX11_taken 9 = .ok (.getfield 7, 3) := by decide +kernel
theorem dX11_taken_12 : decode cX11_taken 12 = .ok (.iload_n 1, 1) := by decide +kernel
theorem dX11_taken_13 : decode cX11_taken 13 = .ok (.aload_n 0, 1) := by decide +kernel
theorem dX11_taken_14 : decode cX11_taken 14 = .ok (.getfield 24, 3) := by decide +kernel
theorem dX11_taken_17 : decode cX11_taken 17 = .ok (.iload_n 1, 1) := by decide +kernel
theorem dX11_taken_18 : decode cX11_taken 18 = .ok (.iaload, 1) := by decide +kernel
theorem dX11_taken_19 : decode cX11_taken 19 = .ok (.iastore, 1) := by decide +kernel
theorem dX11_taken_20 : decode cX11_taken 20 = .ok (.iinc 1 1, 3) := by decide +kernel
theorem dX11_taken_23 : decode cX11_taken 23 = .ok (.goto (-21), 3) := by decide +kernel
theorem dX11_taken_26 : decode cX11_taken 26 = .ok (.aload_n 0, 1) := by decide +kernel
theorem dX11_taken_27 : decode cX11_taken 27 = .ok (.iconst 0, 1) := by decide +kernel
theorem dX11_taken_28 : decode cX11_taken 28 = .ok (.putfield 176, 3) := by decide +kernel
theorem dX11_taken_31 : decode cX11_taken 31 = .ok (.return_, 1) := by decide +kernel
set_option maxRecDepth 20000 in
theorem ggX11_read_X11_atFirst : GoodIn wsX11_read wsX11_atFirst := goodIn_r _ [12, 13, 5, 6, 14, 85, 86, 87, 88, 89, 90, 91, 92, 93, 94, 95, 96, 97, 98, 99, 100, 101, 102, 103, 104, 105, 106, 107, 108, 109, 110, 111, 112, 113, 114] (by decide +kernel) (by decide +kernel)
set_option maxRecDepth 20000 in
theorem gX11_read_X11_atFirst : GoodIn wsX11_read (wsV RX11 60 RX11 yX11_atFirst wsX11_atFirst) := goodIn_app (goodIn_of _ (by decide +kernel)) ggX11_read_X11_atFirst
set_option maxRecDepth 20000 in
theorem ggX11_read_X11_token : GoodIn wsX11_read wsX11_token := goodIn_r _ [18, 14, 19, 20, 4, 21, 22, 23, 24, 11, 25, 3, 26, 27, 28, 29, 85, 86, 87, 88, 89, 90, 91, 92, 93, 94, 95, 96, 97, 98, 99, 100, 101, 102, 103, 104, 105, 106, 107, 108, 109, 110, 111, 112, 113, 114] (by decide +kernel) (by decide +kernel)
set_option maxRecDepth 20000 in
theorem gX11_read_X11_token : GoodIn wsX11_read (wsV RX11 123 RX11 yX11_token wsX11_token) := goodIn_app (goodIn_of _ (by decide +kernel)) ggX11_read_X11_token
set_option maxRecDepth 20000 in
theorem ggX11_read_X11_line : GoodIn wsX11_read wsX11_line := goodIn_r _ [33, 4, 20, 34, 35, 36, 13, 37, 38, 39, 40, 11, 41, 19, 42, 43, 44, 45, 5, 6, 15, 16, 17, 18, 14, 21, 22, 23, 24, 25, 3, 26, 27, 28, 29, 46, 47, 48, 49, 50, 51, 52, 53, 7, 54, 55, 56, 57, 58, 59, 60, 61, 62, 63, 64, 65, 66, 67, 68, 69, 70, 71, 72, 73, 74, 75, 76, 77, 78, 79, 85, 86, 87, 88, 89, 90, 91, 92, 93, 94, 95, 96, 97, 98, 99, 100, 101, 102, 103, 104, 105, 106, 107, 108, 109, 110, 111, 112, 113, 114] (by decide +kernel) (by decide +kernel)
set_option maxRecDepth 20000 in
theorem gX11_read_X11_line : GoodIn wsX11_read (wsV RX11 179 RX11 yX11_line wsX11_line) := goodIn_app (goodIn_of _ (by decide +kernel)) ggX11_read_X11_line
set_option maxRecDepth 20000 in
theorem ggX11_read_X11_fails : GoodIn wsX11_read wsX11_fails := goodIn_r _ [53, 19, 7, 85, 86, 87, 88, 89, 90, 91, 92, 93, 94, 95, 96, 97, 98, 99, 100, 101, 102, 103, 104, 105, 106, 107, 108, 109, 110, 111, 112, 113, 114] (by decide +kernel) (by decide +kernel)
set_option maxRecDepth 20000 in
theorem gX11_read_X11_fails : GoodIn wsX11_read (wsV RX11 112 RX11 yX11_fails wsX11_fails) := goodIn_app (goodIn_of _ (by decide +kernel)) ggX11_read_X11_fails
set_option maxRecDepth 20000 in
theorem ggX11_read_X11_taken : GoodIn wsX11_read wsX11_taken := goodIn_r _ [83, 2, 13, 84, 85, 86, 87, 88, 89, 90, 91, 92, 93, 94, 95, 96, 97, 98, 99, 100, 101, 102, 103, 104, 105, 106, 107, 108, 109, 110, 111, 112, 113, 114] (by decide +kernel) (by decide +kernel)
set_option maxRecDepth 20000 in
theorem gX11_read_X11_taken : GoodIn wsX11_read (wsV RX11 63 RX11 yX11_taken wsX11_taken) := goodIn_app (goodIn_of _ (by decide +kernel)) ggX11_read_X11_taken
theorem dX11_read_0 : decode cX11_read 0 = .ok (.aload_n 0, 1) := by decide +kernel
theorem dX11_read_1 : decode cX11_read 1 = .ok (.iconst 0, 1) := by decide +kernel
theorem dX11_read_2 : decode cX11_read 2 = .ok (.putfield 66, 3) := by decide +kernel
theorem dX11_read_5 : decode cX11_read 5 = .ok (.aload_n 0, 1) := by decide +kernel
theorem dX11_read_6 : decode cX11_read 6 = .ok (.aload_n 0, 1) := by decide +kernel
theorem dX11_read_7 : decode cX11_read 7 = .ok (.getfield 7, 3) := by decide +kernel
theorem dX11_read_10 : decode cX11_read 10 = .ok (.bipush 97, 2) := by decide +kernel
theorem dX11_read_12 : decode cX11_read 12 = .ok (.iaload, 1) := by decide +kernel
theorem dX11_read_13 : decode cX11_read 13 = .ok (.putfield 83, 3) := by decide +kernel
theorem dX11_read_16 : decode cX11_read 16 = .ok (.aload_n 0, 1) := by decide +kernel
theorem dX11_read_17 : decode cX11_read 17 = .ok (.getfield 7, 3) := by decide +kernel
theorem dX11_read_20 : decode cX11_read 20 = .ok (.bipush 97, 2) := by decide +kernel
theorem dX11_read_22 : decode cX11_read 22 = .ok (.iconst 0, 1) := by decide +kernel
theorem dX11_read_23 : decode cX11_read 23 = .ok (.iastore, 1) := by decide +kernel
theorem dX11_read_24 : decode cX11_read 24 = .ok (.aload_n 0, 1) := by decide +kernel
theorem dX11_read_25 : decode cX11_read 25 = .ok (.invokevirtual 60, 3) := by decide +kernel
theorem dX11_read_28 : decode cX11_read 28 = .ok (.aload_n 0, 1) := by decide +kernel
theorem dX11_read_29 : decode cX11_read 29 = .ok (.invokevirtual 123, 3) := by decide +kernel
theorem dX11_read_32 : decode cX11_read 32 = .ok (.iconst 1, 1) := by decide +kernel
theorem dX11_read_33 : decode cX11_read 33 = .ok (.istore_n 1, 1) := by decide +kernel
theorem dX11_read_34 : decode cX11_read 34 = .ok (.iload_n 1, 1) := by decide +kernel
theorem dX11_read_35 : decode cX11_read 35 = .ok (.ifCond .eq 43, 3) := by decide +kernel
theorem dX11_read_38 : decode cX11_read 38 = .ok (.aload_n 0, 1) := by decide +kernel
theorem dX11_read_39 : decode cX11_read 39 = .ok (.getfield 97, 3) := by decide +kernel
theorem dX11_read_42 : decode cX11_read 42 = .ok (.ifCond .eq 36, 3) := by decide +kernel
theorem dX11_read_45 : decode cX11_read 45 = .ok (.aload_n 0, 1) := by decide +kernel
theorem dX11_read_46 : decode cX11_read 46 = .ok (.invokevirtual 179, 3) := by decide +kernel
theorem dX11_read_49 : decode cX11_read 49 = .ok (.istore_n 1, 1) := by decide +kernel
theorem dX11_read_50 : decode cX11_read 50 = .ok (.iload_n 1, 1) := by decide +kernel
theorem dX11_read_51 : decode cX11_read 51 = .ok (.ifCond .eq 16, 3) := by decide +kernel
theorem dX11_read_54 : decode cX11_read 54 = .ok (.aload_n 0, 1) := by decide +kernel
theorem dX11_read_55 : decode cX11_read 55 = .ok (.getfield 97, 3) := by decide +kernel
theorem dX11_read_58 : decode cX11_read 58 = .ok (.iconst 4, 1) := by decide +kernel
theorem dX11_read_59 : decode cX11_read 59 = .ok (.if_icmp .eq 8, 3) := by decide +kernel
theorem dX11_read_62 : decode cX11_read 62 = .ok (.aload_n 0, 1) := by decide +kernel
theorem dX11_read_63 : decode cX11_read 63 = .ok (.invokevirtual 112, 3) := by decide +kernel
theorem dX11_read_66 : decode cX11_read 66 = .ok (.istore_n 1, 1) := by decide +kernel
theorem dX11_read_67 : decode cX11_read 67 = .ok (.iload_n 1, 1) := by decide +kernel
theorem dX11_read_68 : decode cX11_read 68 = .ok (.ifCond .eq (-34), 3) := by decide +kernel
theorem dX11_read_71 : decode cX11_read 71 = .ok (.aload_n 0, 1) := by decide +kernel
theorem dX11_read_72 : decode cX11_read 72 = .ok (.invokevirtual 123, 3) := by decide +kernel
theorem dX11_read_75 : decode cX11_read 75 = .ok (.goto (-41), 3) := by decide +kernel
theorem dX11_read_78 : decode cX11_read 78 = .ok (.aload_n 0, 1) := by decide +kernel
theorem dX11_read_79 : decode cX11_read 79 = .ok (.getfield 7, 3) := by decide +kernel
theorem dX11_read_82 : decode cX11_read 82 = .ok (.bipush 98, 2) := by decide +kernel
theorem dX11_read_84 : decode cX11_read 84 = .ok (.iload_n 1, 1) := by decide +kernel
theorem dX11_read_85 : decode cX11_read 85 = .ok (.ifCond .eq 10, 3) := by decide +kernel
theorem dX11_read_88 : decode cX11_read 88 = .ok (.aload_n 0, 1) := by decide +kernel
theorem dX11_read_89 : decode cX11_read 89 = .ok (.getfield 106, 3) := by decide +kernel
theorem dX11_read_92 : decode cX11_read 92 = .ok (.goto 4, 3) := by decide +kernel
theorem dX11_read_95 : decode cX11_read 95 = .ok (.iconst 1, 1) := by decide +kernel
theorem dX11_read_96 : decode cX11_read 96 = .ok (.iastore, 1) := by decide +kernel
theorem dX11_read_97 : decode cX11_read 97 = .ok (.aload_n 0, 1) := by decide +kernel
theorem dX11_read_98 : decode cX11_read 98 = .ok (.getfield 7, 3) := by decide +kernel
theorem dX11_read_101 : decode cX11_read 101 = .ok (.bipush 99, 2) := by decide +kernel
theorem dX11_read_103 : decode cX11_read 103 = .ok (.iload_n 1, 1) := by decide +kernel
theorem dX11_read_104 : decode cX11_read 104 = .ok (.ifCond .eq 10, 3) := by decide +kernel
theorem dX11_read_107 : decode cX11_read 107 = .ok (.aload_n 0, 1) := by decide +kernel
theorem dX11_read_108 : decode cX11_read 108 = .ok (.getfield 109, 3) := by decide +kernel
theorem dX11_read_111 : decode cX11_read 111 = .ok (.goto 7, 3) := by decide +kernel
theorem dX11_read_114 : decode cX11_read 114 = .ok (.aload_n 0, 1) := by decide +kernel
theorem dX11_read_115 : decode cX11_read 115 = .ok (.getfield 103, 3) := by decide +kernel
theorem dX11_read_118 : decode cX11_read 118 = .ok (.iastore, 1) := by decide +kernel
theorem dX11_read_119 : decode cX11_read 119 = .ok (.aload_n 0, 1) := by decide +kernel
theorem dX11_read_120 : decode cX11_read 120 = .ok (.getfield 7, 3) := by decide +kernel
theorem dX11_read_123 : decode cX11_read 123 = .ok (.bipush 98, 2) := by decide +kernel
theorem dX11_read_125 : decode cX11_read 125 = .ok (.iaload, 1) := by decide +kernel
theorem dX11_read_126 : decode cX11_read 126 = .ok (.ifCond .eq 5, 3) := by decide +kernel
theorem dX11_read_129 : decode cX11_read 129 = .ok (.iconst (-1), 1) := by decide +kernel
theorem dX11_read_130 : decode cX11_read 130 = .ok (.ireturn, 1) := by decide +kernel
theorem dX11_read_131 : decode cX11_read 131 = .ok (.aload_n 0, 1) := by decide +kernel
theorem dX11_read_132 : decode cX11_read 132 = .ok (.invokevirtual 63, 3) := by decide +kernel
theorem dX11_read_135 : decode cX11_read 135 = .ok (.aload_n 0, 1) := by decide +kernel
theorem dX11_read_136 : decode cX11_read 136 = .ok (.getfield 7, 3) := by decide +kernel
theorem dX11_read_139 : decode cX11_read 139 = .ok (.iconst 0, 1) := by decide +kernel
theorem dX11_read_140 : decode cX11_read 140 = .ok (.iaload, 1) := by decide +kernel
theorem dX11_read_141 : decode cX11_read 141 = .ok (.ireturn, 1) := by decide +kernel
theorem dX11_fault_0 : decode cX11_fault 0 = .ok (.aload_n 0, 1) := by decide +kernel
theorem dX11_fault_1 : decode cX11_fault 1 = .ok (.iconst 0, 1) := by decide +kernel
theorem dX11_fault_2 : decode cX11_fault 2 = .ok (.putfield 66, 3) := by decide +kernel
theorem dX11_fault_5 : decode cX11_fault 5 = .ok (.iload_n 1, 1) := by decide +kernel
theorem dX11_fault_6 : decode cX11_fault 6 = .ok (.ifCond .eq 13, 3) := by decide +kernel
theorem dX11_fault_9 : decode cX11_fault 9 = .ok (.aload_n 0, 1) := by decide +kernel
theorem dX11_fault_10 : decode cX11_fault 10 = .ok (.getfield 7, 3) := by decide +kernel
theorem dX11_fault_13 : decode cX11_fault 13 = .ok (.bipush 99, 2) := by decide +kernel
theorem dX11_fault_15 : decode cX11_fault 15 = .ok (.iaload, 1) := by decide +kernel
theorem dX11_fault_16 : decode cX11_fault 16 = .ok (.goto 10, 3) := by decide +kernel
theorem dX11_fault_19 : decode cX11_fault 19 = .ok (.aload_n 0, 1) := by decide +kernel
theorem dX11_fault_20 : decode cX11_fault 20 = .ok (.getfield 7, 3) := by decide +kernel
theorem dX11_fault_23 : decode cX11_fault 23 = .ok (.bipush 98, 2) := by decide +kernel
theorem dX11_fault_25 : decode cX11_fault 25 = .ok (.iaload, 1) := by decide +kernel
theorem dX11_fault_26 : decode cX11_fault 26 = .ok (.ireturn, 1) := by decide +kernel
theorem dX11_keeps_0 : decode cX11_keeps 0 = .ok (.aload_n 0, 1) := by decide +kernel
theorem dX11_keeps_1 : decode cX11_keeps 1 = .ok (.getfield 176, 3) := by decide +kernel
theorem dX11_keeps_4 : decode cX11_keeps 4 = .ok (.bipush 8, 2) := by decide +kernel
theorem dX11_keeps_6 : decode cX11_keeps 6 = .ok (.if_icmp .ne 43, 3) := by decide +kernel
theorem dX11_keeps_9 : decode cX11_keeps 9 = .ok (.iconst 0, 1) := by decide +kernel
theorem dX11_keeps_10 : decode cX11_keeps 10 = .ok (.istore_n 1, 1) := by decide +kernel
theorem dX11_keeps_11 : decode cX11_keeps 11 = .ok (.iload_n 1, 1) := by decide +kernel
theorem dX11_keeps_12 : decode cX11_keeps 12 = .ok (.sipush 679, 3) := by decide +kernel
theorem dX11_keeps_15 : decode cX11_keeps 15 = .ok (.if_icmp .ge 24, 3) := by decide +kernel
theorem dX11_keeps_18 : decode cX11_keeps 18 = .ok (.aload_n 0, 1) := by decide +kernel
theorem dX11_keeps_19 : decode cX11_keeps 19 = .ok (.getfield 21, 3) := by decide +kernel
theorem dX11_keeps_22 : decode cX11_keeps 22 = .ok (.iload_n 1, 1) := by decide +kernel
theorem dX11_keeps_23 : decode cX11_keeps 23 = .ok (.aload_n 0, 1) := by decide +kernel
theorem dX11_keeps_24 : decode cX11_keeps 24 = .ok (.getfield 21, 3) := by decide +kernel
theorem dX11_keeps_27 : decode cX11_keeps 27 = .ok (.iload_n 1, 1) := by decide +kernel
theorem dX11_keeps_28 : decode cX11_keeps 28 = .ok (.bipush 97, 2) := by decide +kernel
theorem dX11_keeps_30 : decode cX11_keeps 30 = .ok (.iadd, 1) := by decide +kernel
theorem dX11_keeps_31 : decode cX11_keeps 31 = .ok (.iaload, 1) := by decide +kernel
theorem dX11_keeps_32 : decode cX11_keeps 32 = .ok (.iastore, 1) := by decide +kernel
theorem dX11_keeps_33 : decode cX11_keeps 33 = .ok (.iinc 1 1, 3) := by decide +kernel
theorem dX11_keeps_36 : decode cX11_keeps 36 = .ok (.goto (-25), 3) := by decide +kernel
theorem dX11_keeps_39 : decode cX11_keeps 39 = .ok (.aload_n 0, 1) := by decide +kernel
theorem dX11_keeps_40 : decode cX11_keeps 40 = .ok (.dup, 1) := by decide +kernel
theorem dX11_keeps_41 : decode cX11_keeps 41 = .ok (.getfield 176, 3) := by decide +kernel
theorem dX11_keeps_44 : decode cX11_keeps 44 = .ok (.iconst 1, 1) := by decide +kernel
theorem dX11_keeps_45 : decode cX11_keeps 45 = .ok (.isub, 1) := by decide +kernel
theorem dX11_keeps_46 : decode cX11_keeps 46 = .ok (.putfield 176, 3) := by decide +kernel
theorem dX11_keeps_49 : decode cX11_keeps 49 = .ok (.iconst 0, 1) := by decide +kernel
theorem dX11_keeps_50 : decode cX11_keeps 50 = .ok (.istore_n 1, 1) := by decide +kernel
theorem dX11_keeps_51 : decode cX11_keeps 51 = .ok (.iload_n 1, 1) := by decide +kernel
theorem dX11_keeps_52 : decode cX11_keeps 52 = .ok (.bipush 97, 2) := by decide +kernel
theorem dX11_keeps_54 : decode cX11_keeps 54 = .ok (.if_icmp .ge 29, 3) := by decide +kernel
theorem dX11_keeps_57 : decode cX11_keeps 57 = .ok (.aload_n 0, 1) := by decide +kernel
theorem dX11_keeps_58 : decode cX11_keeps 58 = .ok (.getfield 21, 3) := by decide +kernel
theorem dX11_keeps_61 : decode cX11_keeps 61 = .ok (.bipush 97, 2) := by decide +kernel
theorem dX11_keeps_63 : decode cX11_keeps 63 = .ok (.aload_n 0, 1) := by decide +kernel
theorem dX11_keeps_64 : decode cX11_keeps 64 = .ok (.getfield 176, 3) := by decide +kernel
theorem dX11_keeps_67 : decode cX11_keeps 67 = .ok (.imul, 1) := by decide +kernel
theorem dX11_keeps_68 : decode cX11_keeps 68 = .ok (.iload_n 1, 1) := by decide +kernel
theorem dX11_keeps_69 : decode cX11_keeps 69 = .ok (.iadd, 1) := by decide +kernel
theorem dX11_keeps_70 : decode cX11_keeps 70 = .ok (.aload_n 0, 1) := by decide +kernel
theorem dX11_keeps_71 : decode cX11_keeps 71 = .ok (.getfield 7, 3) := by decide +kernel
theorem dX11_keeps_74 : decode cX11_keeps 74 = .ok (.iload_n 1, 1) := by decide +kernel
theorem dX11_keeps_75 : decode cX11_keeps 75 = .ok (.iaload, 1) := by decide +kernel
theorem dX11_keeps_76 : decode cX11_keeps 76 = .ok (.iastore, 1) := by decide +kernel
theorem dX11_keeps_77 : decode cX11_keeps 77 = .ok (.iinc 1 1, 3) := by decide +kernel
theorem dX11_keeps_80 : decode cX11_keeps 80 = .ok (.goto (-29), 3) := by decide +kernel
theorem dX11_keeps_83 : decode cX11_keeps 83 = .ok (.aload_n 0, 1) := by decide +kernel
theorem dX11_keeps_84 : decode cX11_keeps 84 = .ok (.dup, 1) := by decide +kernel
theorem dX11_keeps_85 : decode cX11_keeps 85 = .ok (.getfield 176, 3) := by decide +kernel
theorem dX11_keeps_88 : decode cX11_keeps 88 = .ok (.iconst 1, 1) := by decide +kernel
theorem dX11_keeps_89 : decode cX11_keeps 89 = .ok (.iadd, 1) := by decide +kernel
theorem dX11_keeps_90 : decode cX11_keeps 90 = .ok (.putfield 176, 3) := by decide +kernel
theorem dX11_keeps_93 : decode cX11_keeps 93 = .ok (.return_, 1) := by decide +kernel
set_option maxRecDepth 20000 in
theorem ggX11_gap_X11_in : GoodIn wsX11_gap wsX11_in := goodIn_r _ [6] (by decide +kernel) (by decide +kernel)
set_option maxRecDepth 20000 in
theorem gX11_gap_X11_in : GoodIn wsX11_gap (va_wsS RX11 70 yX11_in wsX11_in) := goodIn_app (goodIn_of _ (by decide +kernel)) ggX11_gap_X11_in
set_option maxRecDepth 20000 in
theorem ggX11_gap_X11_hasGap : GoodIn wsX11_gap wsX11_hasGap := goodIn_r _ [9] (by decide +kernel) (by decide +kernel)
set_option maxRecDepth 20000 in
theorem gX11_gap_X11_hasGap : GoodIn wsX11_gap (va_wsS RX11 144 yX11_hasGap wsX11_hasGap) := goodIn_app (goodIn_of _ (by decide +kernel)) ggX11_gap_X11_hasGap
set_option maxRecDepth 20000 in
theorem ggX11_gap_X11_keeps : GoodIn wsX11_gap wsX11_keeps := goodIn_r _ [13, 14, 15, 2, 23, 24, 25, 26, 27, 28, 29, 30, 31, 32, 33, 34, 35, 36, 37, 38, 39, 40, 41, 42, 43, 44, 45, 46, 47, 48, 49, 50, 51, 52] (by decide +kernel) (by decide +kernel)
set_option maxRecDepth 20000 in
theorem gX11_gap_X11_keeps : GoodIn wsX11_gap (wsV RX11 182 RX11 yX11_keeps wsX11_keeps) := goodIn_app (goodIn_of _ (by decide +kernel)) ggX11_gap_X11_keeps
set_option maxRecDepth 20000 in
theorem ggX11_gap_X11_putsGap : GoodIn wsX11_gap wsX11_putsGap := goodIn_r _ [18] (by decide +kernel) (by decide +kernel)
set_option maxRecDepth 20000 in
theorem gX11_gap_X11_putsGap : GoodIn wsX11_gap (va_wsS RX11 148 yX11_putsGap wsX11_putsGap) := goodIn_app (goodIn_of _ (by decide +kernel)) ggX11_gap_X11_putsGap
set_option maxRecDepth 20000 in
theorem ggX11_gap_X11_gapAt : GoodIn wsX11_gap wsX11_gapAt := goodIn_r _ [22, 2, 23, 24, 25, 26, 27, 28, 29, 30, 31, 32, 33, 34, 35, 36, 37, 38, 39, 40, 41, 42, 43, 44, 45, 46, 47, 48, 49, 50, 51, 52] (by decide +kernel) (by decide +kernel)
set_option maxRecDepth 20000 in
theorem gX11_gap_X11_gapAt : GoodIn wsX11_gap (wsV RX11 185 RX11 yX11_gapAt wsX11_gapAt) := goodIn_app (goodIn_of _ (by decide +kernel)) ggX11_gap_X11_gapAt
theorem dX11_gap_0 : decode cX11_gap 0 = .ok (.aload_n 0, 1) := by decide +kernel
theorem dX11_gap_1 : decode cX11_gap 1 = .ok (.iconst 0, 1) := by decide +kernel
theorem dX11_gap_2 : decode cX11_gap 2 = .ok (.putfield 66, 3) := by decide +kernel
theorem dX11_gap_5 : decode cX11_gap 5 = .ok (.iload_n 1, 1) := by decide +kernel
theorem dX11_gap_6 : decode cX11_gap 6 = .ok (.iconst 4, 1) := by decide +kernel
theorem dX11_gap_7 : decode cX11_gap 7 = .ok (.bipush 60, 2) := by decide +kernel
theorem dX11_gap_9 : decode cX11_gap 9 = .ok (.invokestatic 70, 3) := by decide +kernel
theorem dX11_gap_12 : decode cX11_gap 12 = .ok (.ifCond .eq 29, 3) := by decide +kernel
theorem dX11_gap_15 : decode cX11_gap 15 = .ok (.aload_n 0, 1) := by decide +kernel
theorem dX11_gap_16 : decode cX11_gap 16 = .ok (.getfield 7, 3) := by decide +kernel
theorem dX11_gap_19 : decode cX11_gap 19 = .ok (.iload_n 1, 1) := by decide +kernel
theorem dX11_gap_20 : decode cX11_gap 20 = .ok (.invokestatic 144, 3) := by decide +kernel
theorem dX11_gap_23 : decode cX11_gap 23 = .ok (.iload_n 2, 1) := by decide +kernel
theorem dX11_gap_24 : decode cX11_gap 24 = .ok (.if_icmp .ne 17, 3) := by decide +kernel
theorem dX11_gap_27 : decode cX11_gap 27 = .ok (.iload_n 2, 1) := by decide +kernel
theorem dX11_gap_28 : decode cX11_gap 28 = .ok (.ifCond .ne 15, 3) := by decide +kernel
theorem dX11_gap_31 : decode cX11_gap 31 = .ok (.aload_n 0, 1) := by decide +kernel
theorem dX11_gap_32 : decode cX11_gap 32 = .ok (.getfield 7, 3) := by decide +kernel
theorem dX11_gap_35 : decode cX11_gap 35 = .ok (.iconst 0, 1) := by decide +kernel
theorem dX11_gap_36 : decode cX11_gap 36 = .ok (.iaload, 1) := by decide +kernel
theorem dX11_gap_37 : decode cX11_gap 37 = .ok (.iconst 5, 1) := by decide +kernel
theorem dX11_gap_38 : decode cX11_gap 38 = .ok (.if_icmp .ne 5, 3) := by decide +kernel
theorem dX11_gap_41 : decode cX11_gap 41 = .ok (.iconst (-1), 1) := by decide +kernel
theorem dX11_gap_42 : decode cX11_gap 42 = .ok (.ireturn, 1) := by decide +kernel
theorem dX11_gap_43 : decode cX11_gap 43 = .ok (.aload_n 0, 1) := by decide +kernel
theorem dX11_gap_44 : decode cX11_gap 44 = .ok (.invokevirtual 182, 3) := by decide +kernel
theorem dX11_gap_47 : decode cX11_gap 47 = .ok (.iload_n 2, 1) := by decide +kernel
theorem dX11_gap_48 : decode cX11_gap 48 = .ok (.ifCond .ne 18, 3) := by decide +kernel
theorem dX11_gap_51 : decode cX11_gap 51 = .ok (.aload_n 0, 1) := by decide +kernel
theorem dX11_gap_52 : decode cX11_gap 52 = .ok (.getfield 7, 3) := by decide +kernel
theorem dX11_gap_55 : decode cX11_gap 55 = .ok (.iload_n 1, 1) := by decide +kernel
theorem dX11_gap_56 : decode cX11_gap 56 = .ok (.invokestatic 148, 3) := by decide +kernel
theorem dX11_gap_59 : decode cX11_gap 59 = .ok (.aload_n 0, 1) := by decide +kernel
theorem dX11_gap_60 : decode cX11_gap 60 = .ok (.getfield 7, 3) := by decide +kernel
theorem dX11_gap_63 : decode cX11_gap 63 = .ok (.iconst 0, 1) := by decide +kernel
theorem dX11_gap_64 : decode cX11_gap 64 = .ok (.iaload, 1) := by decide +kernel
theorem dX11_gap_65 : decode cX11_gap 65 = .ok (.ireturn, 1) := by decide +kernel
theorem dX11_gap_66 : decode cX11_gap 66 = .ok (.iconst 0, 1) := by decide +kernel
theorem dX11_gap_67 : decode cX11_gap 67 = .ok (.istore_n 3, 1) := by decide +kernel
theorem dX11_gap_68 : decode cX11_gap 68 = .ok (.iconst 0, 1) := by decide +kernel
theorem dX11_gap_69 : decode cX11_gap 69 = .ok (.istore 4, 2) := by decide +kernel
theorem dX11_gap_71 : decode cX11_gap 71 = .ok (.iload 4, 2) := by decide +kernel
theorem dX11_gap_73 : decode cX11_gap 73 = .ok (.aload_n 0, 1) := by decide +kernel
theorem dX11_gap_74 : decode cX11_gap 74 = .ok (.getfield 7, 3) := by decide +kernel
theorem dX11_gap_77 : decode cX11_gap 77 = .ok (.iconst 0, 1) := by decide +kernel
theorem dX11_gap_78 : decode cX11_gap 78 = .ok (.iaload, 1) := by decide +kernel
theorem dX11_gap_79 : decode cX11_gap 79 = .ok (.if_icmp .ge 41, 3) := by decide +kernel
theorem dX11_gap_82 : decode cX11_gap 82 = .ok (.aload_n 0, 1) := by decide +kernel
theorem dX11_gap_83 : decode cX11_gap 83 = .ok (.getfield 7, 3) := by decide +kernel
theorem dX11_gap_86 : decode cX11_gap 86 = .ok (.iconst 1, 1) := by decide +kernel
theorem dX11_gap_87 : decode cX11_gap 87 = .ok (.iload_n 3, 1) := by decide +kernel
theorem dX11_gap_88 : decode cX11_gap 88 = .ok (.iadd, 1) := by decide +kernel
theorem dX11_gap_89 : decode cX11_gap 89 = .ok (.aload_n 0, 1) := by decide +kernel
theorem dX11_gap_90 : decode cX11_gap 90 = .ok (.iload 4, 2) := by decide +kernel
theorem dX11_gap_92 : decode cX11_gap 92 = .ok (.invokevirtual 185, 3) := by decide +kernel
theorem dX11_gap_95 : decode cX11_gap 95 = .ok (.iastore, 1) := by decide +kernel
theorem dX11_gap_96 : decode cX11_gap 96 = .ok (.iload_n 3, 1) := by decide +kernel
theorem dX11_gap_97 : decode cX11_gap 97 = .ok (.aload_n 0, 1) := by decide +kernel
theorem dX11_gap_98 : decode cX11_gap 98 = .ok (.iload 4, 2) := by decide +kernel
theorem dX11_gap_100 : decode cX11_gap 100 = .ok (.invokevirtual 185, 3) := by decide +kernel
theorem dX11_gap_103 : decode cX11_gap 103 = .ok (.iload_n 1, 1) := by decide +kernel
theorem dX11_gap_104 : decode cX11_gap 104 = .ok (.if_icmp .ne 7, 3) := by decide +kernel
theorem dX11_gap_107 : decode cX11_gap 107 = .ok (.iconst 0, 1) := by decide +kernel
theorem dX11_gap_108 : decode cX11_gap 108 = .ok (.goto 4, 3) := by decide +kernel
theorem dX11_gap_111 : decode cX11_gap 111 = .ok (.iconst 1, 1) := by decide +kernel
theorem dX11_gap_112 : decode cX11_gap 112 = .ok (.iadd, 1) := by decide +kernel
theorem dX11_gap_113 : decode cX11_gap 113 = .ok (.istore_n 3, 1) := by decide +kernel
theorem dX11_gap_114 : decode cX11_gap 114 = .ok (.iinc 4 1, 3) := by decide +kernel
theorem dX11_gap_117 : decode cX11_gap 117 = .ok (.goto (-46), 3) := by decide +kernel
theorem dX11_gap_120 : decode cX11_gap 120 = .ok (.aload_n 0, 1) := by decide +kernel
theorem dX11_gap_121 : decode cX11_gap 121 = .ok (.getfield 7, 3) := by decide +kernel
theorem dX11_gap_124 : decode cX11_gap 124 = .ok (.iconst 0, 1) := by decide +kernel
theorem dX11_gap_125 : decode cX11_gap 125 = .ok (.dup2, 1) := by decide +kernel
theorem dX11_gap_126 : decode cX11_gap 126 = .ok (.iaload, 1) := by decide +kernel
theorem dX11_gap_127 : decode cX11_gap 127 = .ok (.iconst 1, 1) := by decide +kernel
theorem dX11_gap_128 : decode cX11_gap 128 = .ok (.isub, 1) := by decide +kernel
theorem dX11_gap_129 : decode cX11_gap 129 = .ok (.iastore, 1) := by decide +kernel
theorem dX11_gap_130 : decode cX11_gap 130 = .ok (.aload_n 0, 1) := by decide +kernel
theorem dX11_gap_131 : decode cX11_gap 131 = .ok (.getfield 7, 3) := by decide +kernel
theorem dX11_gap_134 : decode cX11_gap 134 = .ok (.iconst 0, 1) := by decide +kernel
theorem dX11_gap_135 : decode cX11_gap 135 = .ok (.iaload, 1) := by decide +kernel
theorem dX11_gap_136 : decode cX11_gap 136 = .ok (.ireturn, 1) := by decide +kernel
set_option maxRecDepth 20000 in
theorem ggX11_set_X11_in : GoodIn wsX11_set wsX11_in := goodIn_r _ [6] (by decide +kernel) (by decide +kernel)
set_option maxRecDepth 20000 in
theorem gX11_set_X11_in : GoodIn wsX11_set (va_wsS RX11 70 yX11_in wsX11_in) := goodIn_app (goodIn_of _ (by decide +kernel)) ggX11_set_X11_in
set_option maxRecDepth 20000 in
theorem ggX11_set_X11_leastOf : GoodIn wsX11_set wsX11_leastOf := goodIn_r _ [9] (by decide +kernel) (by decide +kernel)
set_option maxRecDepth 20000 in
theorem gX11_set_X11_leastOf : GoodIn wsX11_set (va_wsS RX11 169 yX11_leastOf wsX11_leastOf) := goodIn_app (goodIn_of _ (by decide +kernel)) ggX11_set_X11_leastOf
set_option maxRecDepth 20000 in
theorem ggX11_set_X11_mostOf : GoodIn wsX11_set wsX11_mostOf := goodIn_r _ [12] (by decide +kernel) (by decide +kernel)
set_option maxRecDepth 20000 in
theorem gX11_set_X11_mostOf : GoodIn wsX11_set (va_wsS RX11 173 yX11_mostOf wsX11_mostOf) := goodIn_app (goodIn_of _ (by decide +kernel)) ggX11_set_X11_mostOf
set_option maxRecDepth 20000 in
theorem ggX11_set_X11_keeps : GoodIn wsX11_set wsX11_keeps := goodIn_r _ [16, 17, 18, 2, 19, 20, 21, 22, 23, 24, 25, 26, 27, 28, 29, 30, 31, 32, 33, 34, 35, 36, 37, 38, 39, 40, 41, 42, 43, 44, 45, 46, 47, 48] (by decide +kernel) (by decide +kernel)
set_option maxRecDepth 20000 in
theorem gX11_set_X11_keeps : GoodIn wsX11_set (wsV RX11 182 RX11 yX11_keeps wsX11_keeps) := goodIn_app (goodIn_of _ (by decide +kernel)) ggX11_set_X11_keeps
theorem dX11_set_0 : decode cX11_set 0 = .ok (.aload_n 0, 1) := by decide +kernel
theorem dX11_set_1 : decode cX11_set 1 = .ok (.iconst 0, 1) := by decide +kernel
theorem dX11_set_2 : decode cX11_set 2 = .ok (.putfield 66, 3) := by decide +kernel
theorem dX11_set_5 : decode cX11_set 5 = .ok (.iload_n 1, 1) := by decide +kernel
theorem dX11_set_6 : decode cX11_set 6 = .ok (.iconst 0, 1) := by decide +kernel
theorem dX11_set_7 : decode cX11_set 7 = .ok (.bipush 6, 2) := by decide +kernel
theorem dX11_set_9 : decode cX11_set 9 = .ok (.invokestatic 70, 3) := by decide +kernel
theorem dX11_set_12 : decode cX11_set 12 = .ok (.ifCond .eq 31, 3) := by decide +kernel
theorem dX11_set_15 : decode cX11_set 15 = .ok (.iload_n 2, 1) := by decide +kernel
theorem dX11_set_16 : decode cX11_set 16 = .ok (.iload_n 1, 1) := by decide +kernel
theorem dX11_set_17 : decode cX11_set 17 = .ok (.invokestatic 169, 3) := by decide +kernel
theorem dX11_set_20 : decode cX11_set 20 = .ok (.iload_n 1, 1) := by decide +kernel
theorem dX11_set_21 : decode cX11_set 21 = .ok (.invokestatic 173, 3) := by decide +kernel
theorem dX11_set_24 : decode cX11_set 24 = .ok (.invokestatic 70, 3) := by decide +kernel
theorem dX11_set_27 : decode cX11_set 27 = .ok (.ifCond .eq 16, 3) := by decide +kernel
theorem dX11_set_30 : decode cX11_set 30 = .ok (.aload_n 0, 1) := by decide +kernel
theorem dX11_set_31 : decode cX11_set 31 = .ok (.getfield 7, 3) := by decide +kernel
theorem dX11_set_34 : decode cX11_set 34 = .ok (.bipush 6, 2) := by decide +kernel
theorem dX11_set_36 : decode cX11_set 36 = .ok (.iload_n 1, 1) := by decide +kernel
theorem dX11_set_37 : decode cX11_set 37 = .ok (.iadd, 1) := by decide +kernel
theorem dX11_set_38 : decode cX11_set 38 = .ok (.iaload, 1) := by decide +kernel
theorem dX11_set_39 : decode cX11_set 39 = .ok (.iload_n 2, 1) := by decide +kernel
theorem dX11_set_40 : decode cX11_set 40 = .ok (.if_icmp .ne 5, 3) := by decide +kernel
theorem dX11_set_43 : decode cX11_set 43 = .ok (.iconst 0, 1) := by decide +kernel
theorem dX11_set_44 : decode cX11_set 44 = .ok (.ireturn, 1) := by decide +kernel
theorem dX11_set_45 : decode cX11_set 45 = .ok (.aload_n 0, 1) := by decide +kernel
theorem dX11_set_46 : decode cX11_set 46 = .ok (.invokevirtual 182, 3) := by decide +kernel
theorem dX11_set_49 : decode cX11_set 49 = .ok (.aload_n 0, 1) := by decide +kernel
theorem dX11_set_50 : decode cX11_set 50 = .ok (.getfield 7, 3) := by decide +kernel
theorem dX11_set_53 : decode cX11_set 53 = .ok (.bipush 6, 2) := by decide +kernel
theorem dX11_set_55 : decode cX11_set 55 = .ok (.iload_n 1, 1) := by decide +kernel
theorem dX11_set_56 : decode cX11_set 56 = .ok (.iadd, 1) := by decide +kernel
theorem dX11_set_57 : decode cX11_set 57 = .ok (.iload_n 2, 1) := by decide +kernel
theorem dX11_set_58 : decode cX11_set 58 = .ok (.iastore, 1) := by decide +kernel
theorem dX11_set_59 : decode cX11_set 59 = .ok (.iconst 1, 1) := by decide +kernel
theorem dX11_set_60 : decode cX11_set 60 = .ok (.ireturn, 1) := by decide +kernel
set_option maxRecDepth 20000 in
theorem ggX11_target_X11_in : GoodIn wsX11_target wsX11_in := goodIn_r _ [6] (by decide +kernel) (by decide +kernel)
set_option maxRecDepth 20000 in
theorem gX11_target_X11_in : GoodIn wsX11_target (va_wsS RX11 70 yX11_in wsX11_in) := goodIn_app (goodIn_of _ (by decide +kernel)) ggX11_target_X11_in
set_option maxRecDepth 20000 in
theorem ggX11_target_X11_keeps : GoodIn wsX11_target wsX11_keeps := goodIn_r _ [10, 11, 12, 2, 13, 14, 15, 16, 17, 18, 19, 20, 21, 22, 23, 24, 25, 26, 27, 28, 29, 30, 31, 32, 33, 34, 35, 36, 37, 38, 39, 40, 41, 42] (by decide +kernel) (by decide +kernel)
set_option maxRecDepth 20000 in
theorem gX11_target_X11_keeps : GoodIn wsX11_target (wsV RX11 182 RX11 yX11_keeps wsX11_keeps) := goodIn_app (goodIn_of _ (by decide +kernel)) ggX11_target_X11_keeps
theorem dX11_target_0 : decode cX11_target 0 = .ok (.aload_n 0, 1) := by decide +kernel
theorem dX11_target_1 : decode cX11_target 1 = .ok (.iconst 0, 1) := by decide +kernel
theorem dX11_target_2 : decode cX11_target 2 = .ok (.putfield 66, 3) := by decide +kernel
theorem dX11_target_5 : decode cX11_target 5 = .ok (.iload_n 1, 1) := by decide +kernel
theorem dX11_target_6 : decode cX11_target 6 = .ok (.iconst 0, 1) := by decide +kernel
theorem dX11_target_7 : decode cX11_target 7 = .ok (.sipush 2999, 3) := by decide +kernel
theorem dX11_target_10 : decode cX11_target 10 = .ok (.invokestatic 70, 3) := by decide +kernel
theorem dX11_target_13 : decode cX11_target 13 = .ok (.ifCond .eq 38, 3) := by decide +kernel
theorem dX11_target_16 : decode cX11_target 16 = .ok (.iload_n 2, 1) := by decide +kernel
theorem dX11_target_17 : decode cX11_target 17 = .ok (.sipush (-500), 3) := by decide +kernel
theorem dX11_target_20 : decode cX11_target 20 = .ok (.sipush 500, 3) := by decide +kernel
theorem dX11_target_23 : decode cX11_target 23 = .ok (.invokestatic 70, 3) := by decide +kernel
theorem dX11_target_26 : decode cX11_target 26 = .ok (.ifCond .eq 25, 3) := by decide +kernel
theorem dX11_target_29 : decode cX11_target 29 = .ok (.iload_n 3, 1) := by decide +kernel
theorem dX11_target_30 : decode cX11_target 30 = .ok (.iconst 1, 1) := by decide +kernel
theorem dX11_target_31 : decode cX11_target 31 = .ok (.bipush 99, 2) := by decide +kernel
theorem dX11_target_33 : decode cX11_target 33 = .ok (.invokestatic 70, 3) := by decide +kernel
theorem dX11_target_36 : decode cX11_target 36 = .ok (.ifCond .eq 15, 3) := by decide +kernel
theorem dX11_target_39 : decode cX11_target 39 = .ok (.aload_n 0, 1) := by decide +kernel
theorem dX11_target_40 : decode cX11_target 40 = .ok (.getfield 7, 3) := by decide +kernel
theorem dX11_target_43 : decode cX11_target 43 = .ok (.bipush 13, 2) := by decide +kernel
theorem dX11_target_45 : decode cX11_target 45 = .ok (.iaload, 1) := by decide +kernel
theorem dX11_target_46 : decode cX11_target 46 = .ok (.bipush 8, 2) := by decide +kernel
theorem dX11_target_48 : decode cX11_target 48 = .ok (.if_icmp .ne 5, 3) := by decide +kernel
theorem dX11_target_51 : decode cX11_target 51 = .ok (.iconst (-1), 1) := by decide +kernel
theorem dX11_target_52 : decode cX11_target 52 = .ok (.ireturn, 1) := by decide +kernel
theorem dX11_target_53 : decode cX11_target 53 = .ok (.aload_n 0, 1) := by decide +kernel
theorem dX11_target_54 : decode cX11_target 54 = .ok (.invokevirtual 182, 3) := by decide +kernel
theorem dX11_target_57 : decode cX11_target 57 = .ok (.bipush 14, 2) := by decide +kernel
theorem dX11_target_59 : decode cX11_target 59 = .ok (.iconst 3, 1) := by decide +kernel
theorem dX11_target_60 : decode cX11_target 60 = .ok (.aload_n 0, 1) := by decide +kernel
theorem dX11_target_61 : decode cX11_target 61 = .ok (.getfield 7, 3) := by decide +kernel
theorem dX11_target_64 : decode cX11_target 64 = .ok (.bipush 13, 2) := by decide +kernel
theorem dX11_target_66 : decode cX11_target 66 = .ok (.iaload, 1) := by decide +kernel
theorem dX11_target_67 : decode cX11_target 67 = .ok (.imul, 1) := by decide +kernel
theorem dX11_target_68 : decode cX11_target 68 = .ok (.iadd, 1) := by decide +kernel
theorem dX11_target_69 : decode cX11_target 69 = .ok (.istore 4, 2) := by decide +kernel
theorem dX11_target_71 : decode cX11_target 71 = .ok (.aload_n 0, 1) := by decide +kernel
theorem dX11_target_72 : decode cX11_target 72 = .ok (.getfield 7, 3) := by decide +kernel
theorem dX11_target_75 : decode cX11_target 75 = .ok (.iload 4, 2) := by decide +kernel
theorem dX11_target_77 : decode cX11_target 77 = .ok (.iconst 0, 1) := by decide +kernel
theorem dX11_target_78 : decode cX11_target 78 = .ok (.iadd, 1) := by decide +kernel
theorem dX11_target_79 : decode cX11_target 79 = .ok (.bipush 16, 2) := by decide +kernel
theorem dX11_target_81 : decode cX11_target 81 = .ok (.iload_n 1, 1) := by decide +kernel
theorem dX11_target_82 : decode cX11_target 82 = .ok (.imul, 1) := by decide +kernel
theorem dX11_target_83 : decode cX11_target 83 = .ok (.iastore, 1) := by decide +kernel
theorem dX11_target_84 : decode cX11_target 84 = .ok (.aload_n 0, 1) := by decide +kernel
theorem dX11_target_85 : decode cX11_target 85 = .ok (.getfield 7, 3) := by decide +kernel
theorem dX11_target_88 : decode cX11_target 88 = .ok (.iload 4, 2) := by decide +kernel
theorem dX11_target_90 : decode cX11_target 90 = .ok (.iconst 1, 1) := by decide +kernel
theorem dX11_target_91 : decode cX11_target 91 = .ok (.iadd, 1) := by decide +kernel
theorem dX11_target_92 : decode cX11_target 92 = .ok (.iload_n 2, 1) := by decide +kernel
theorem dX11_target_93 : decode cX11_target 93 = .ok (.iastore, 1) := by decide +kernel
theorem dX11_target_94 : decode cX11_target 94 = .ok (.aload_n 0, 1) := by decide +kernel
theorem dX11_target_95 : decode cX11_target 95 = .ok (.getfield 7, 3) := by decide +kernel
theorem dX11_target_98 : decode cX11_target 98 = .ok (.iload 4, 2) := by decide +kernel
theorem dX11_target_100 : decode cX11_target 100 = .ok (.iconst 2, 1) := by decide +kernel
theorem dX11_target_101 : decode cX11_target 101 = .ok (.iadd, 1) := by decide +kernel
theorem dX11_target_102 : decode cX11_target 102 = .ok (.iload_n 3, 1) := by decide +kernel
theorem dX11_target_103 : decode cX11_target 103 = .ok (.iastore, 1) := by decide +kernel
theorem dX11_target_104 : decode cX11_target 104 = .ok (.aload_n 0, 1) := by decide +kernel
theorem dX11_target_105 : decode cX11_target 105 = .ok (.getfield 7, 3) := by decide +kernel
theorem dX11_target_108 : decode cX11_target 108 = .ok (.bipush 13, 2) := by decide +kernel
theorem dX11_target_110 : decode cX11_target 110 = .ok (.dup2, 1) := by decide +kernel
theorem dX11_target_111 : decode cX11_target 111 = .ok (.iaload, 1) := by decide +kernel
theorem dX11_target_112 : decode cX11_target 112 = .ok (.iconst 1, 1) := by decide +kernel
theorem dX11_target_113 : decode cX11_target 113 = .ok (.iadd, 1) := by decide +kernel
theorem dX11_target_114 : decode cX11_target 114 = .ok (.iastore, 1) := by decide +kernel
theorem dX11_target_115 : decode cX11_target 115 = .ok (.aload_n 0, 1) := by decide +kernel
theorem dX11_target_116 : decode cX11_target 116 = .ok (.getfield 7, 3) := by decide +kernel
theorem dX11_target_119 : decode cX11_target 119 = .ok (.bipush 13, 2) := by decide +kernel
theorem dX11_target_121 : decode cX11_target 121 = .ok (.iaload, 1) := by decide +kernel
theorem dX11_target_122 : decode cX11_target 122 = .ok (.iconst 1, 1) := by decide +kernel
theorem dX11_target_123 : decode cX11_target 123 = .ok (.isub, 1) := by decide +kernel
theorem dX11_target_124 : decode cX11_target 124 = .ok (.ireturn, 1) := by decide +kernel
theorem dX11_goes_0 : decode cX11_goes 0 = .ok (.bipush 14, 2) := by decide +kernel
theorem dX11_goes_2 : decode cX11_goes 2 = .ok (.iconst 3, 1) := by decide +kernel
theorem dX11_goes_3 : decode cX11_goes 3 = .ok (.iload_n 1, 1) := by decide +kernel
theorem dX11_goes_4 : decode cX11_goes 4 = .ok (.imul, 1) := by decide +kernel
theorem dX11_goes_5 : decode cX11_goes 5 = .ok (.iadd, 1) := by decide +kernel
theorem dX11_goes_6 : decode cX11_goes 6 = .ok (.istore_n 2, 1) := by decide +kernel
theorem dX11_goes_7 : decode cX11_goes 7 = .ok (.iload_n 2, 1) := by decide +kernel
theorem dX11_goes_8 : decode cX11_goes 8 = .ok (.bipush 14, 2) := by decide +kernel
theorem dX11_goes_10 : decode cX11_goes 10 = .ok (.iconst 3, 1) := by decide +kernel
theorem dX11_goes_11 : decode cX11_goes 11 = .ok (.aload_n 0, 1) := by decide +kernel
theorem dX11_goes_12 : decode cX11_goes 12 = .ok (.getfield 7, 3) := by decide +kernel
theorem dX11_goes_15 : decode cX11_goes 15 = .ok (.bipush 13, 2) := by decide +kernel
theorem dX11_goes_17 : decode cX11_goes 17 = .ok (.iaload, 1) := by decide +kernel
theorem dX11_goes_18 : decode cX11_goes 18 = .ok (.imul, 1) := by decide +kernel
theorem dX11_goes_19 : decode cX11_goes 19 = .ok (.iadd, 1) := by decide +kernel
theorem dX11_goes_20 : decode cX11_goes 20 = .ok (.iconst 3, 1) := by decide +kernel
theorem dX11_goes_21 : decode cX11_goes 21 = .ok (.isub, 1) := by decide +kernel
theorem dX11_goes_22 : decode cX11_goes 22 = .ok (.if_icmp .ge 23, 3) := by decide +kernel
theorem dX11_goes_25 : decode cX11_goes 25 = .ok (.aload_n 0, 1) := by decide +kernel
theorem dX11_goes_26 : decode cX11_goes 26 = .ok (.getfield 7, 3) := by decide +kernel
theorem dX11_goes_29 : decode cX11_goes 29 = .ok (.iload_n 2, 1) := by decide +kernel
theorem dX11_goes_30 : decode cX11_goes 30 = .ok (.aload_n 0, 1) := by decide +kernel
theorem dX11_goes_31 : decode cX11_goes 31 = .ok (.getfield 7, 3) := by decide +kernel
theorem dX11_goes_34 : decode cX11_goes 34 = .ok (.iload_n 2, 1) := by decide +kernel
theorem dX11_goes_35 : decode cX11_goes 35 = .ok (.iconst 3, 1) := by decide +kernel
theorem dX11_goes_36 : decode cX11_goes 36 = .ok (.iadd, 1) := by decide +kernel
theorem dX11_goes_37 : decode cX11_goes 37 = .ok (.iaload, 1) := by decide +kernel
theorem dX11_goes_38 : decode cX11_goes 38 = .ok (.iastore, 1) := by decide +kernel
theorem dX11_goes_39 : decode cX11_goes 39 = .ok (.iinc 2 1, 3) := by decide +kernel
theorem dX11_goes_42 : decode cX11_goes 42 = .ok (.goto (-35), 3) := by decide +kernel
theorem dX11_goes_45 : decode cX11_goes 45 = .ok (.aload_n 0, 1) := by decide +kernel
theorem dX11_goes_46 : decode cX11_goes 46 = .ok (.getfield 7, 3) := by decide +kernel
theorem dX11_goes_49 : decode cX11_goes 49 = .ok (.bipush 13, 2) := by decide +kernel
theorem dX11_goes_51 : decode cX11_goes 51 = .ok (.dup2, 1) := by decide +kernel
theorem dX11_goes_52 : decode cX11_goes 52 = .ok (.iaload, 1) := by decide +kernel
theorem dX11_goes_53 : decode cX11_goes 53 = .ok (.iconst 1, 1) := by decide +kernel
theorem dX11_goes_54 : decode cX11_goes 54 = .ok (.isub, 1) := by decide +kernel
theorem dX11_goes_55 : decode cX11_goes 55 = .ok (.iastore, 1) := by decide +kernel
theorem dX11_goes_56 : decode cX11_goes 56 = .ok (.return_, 1) := by decide +kernel
set_option maxRecDepth 20000 in
theorem ggX11_leave_X11_isTarget : GoodIn wsX11_leave wsX11_isTarget := goodIn_r _ [7, 2, 8, 9, 6, 10, 21, 22, 23, 24, 25, 26, 27, 28, 29, 30, 31, 32, 33, 34, 35, 36, 37, 38, 39, 40, 41, 42, 43, 44, 45, 46, 47, 48, 49, 50] (by decide +kernel) (by decide +kernel)
set_option maxRecDepth 20000 in
theorem gX11_leave_X11_isTarget : GoodIn wsX11_leave (wsV RX11 188 RX11 yX11_isTarget wsX11_isTarget) := goodIn_app (goodIn_of _ (by decide +kernel)) ggX11_leave_X11_isTarget
set_option maxRecDepth 20000 in
theorem ggX11_leave_X11_keeps : GoodIn wsX11_leave wsX11_keeps := goodIn_r _ [14, 15, 16, 2, 21, 22, 23, 24, 25, 26, 27, 28, 29, 30, 31, 32, 33, 34, 35, 36, 37, 38, 39, 40, 41, 42, 43, 44, 45, 46, 47, 48, 49, 50] (by decide +kernel) (by decide +kernel)
set_option maxRecDepth 20000 in
theorem gX11_leave_X11_keeps : GoodIn wsX11_leave (wsV RX11 182 RX11 yX11_keeps wsX11_keeps) := goodIn_app (goodIn_of _ (by decide +kernel)) ggX11_leave_X11_keeps
set_option maxRecDepth 20000 in
theorem ggX11_leave_X11_goes : GoodIn wsX11_leave wsX11_goes := goodIn_r _ [20, 2, 21, 22, 23, 24, 25, 26, 27, 28, 29, 30, 31, 32, 33, 34, 35, 36, 37, 38, 39, 40, 41, 42, 43, 44, 45, 46, 47, 48, 49, 50] (by decide +kernel) (by decide +kernel)
set_option maxRecDepth 20000 in
theorem gX11_leave_X11_goes : GoodIn wsX11_leave (wsV RX11 191 RX11 yX11_goes wsX11_goes) := goodIn_app (goodIn_of _ (by decide +kernel)) ggX11_leave_X11_goes
theorem dX11_leave_0 : decode cX11_leave 0 = .ok (.aload_n 0, 1) := by decide +kernel
theorem dX11_leave_1 : decode cX11_leave 1 = .ok (.iconst 0, 1) := by decide +kernel
theorem dX11_leave_2 : decode cX11_leave 2 = .ok (.putfield 66, 3) := by decide +kernel
theorem dX11_leave_5 : decode cX11_leave 5 = .ok (.aload_n 0, 1) := by decide +kernel
theorem dX11_leave_6 : decode cX11_leave 6 = .ok (.iload_n 1, 1) := by decide +kernel
theorem dX11_leave_7 : decode cX11_leave 7 = .ok (.invokevirtual 188, 3) := by decide +kernel
theorem dX11_leave_10 : decode cX11_leave 10 = .ok (.ifCond .ne 5, 3) := by decide +kernel
theorem dX11_leave_13 : decode cX11_leave 13 = .ok (.iconst (-1), 1) := by decide +kernel
theorem dX11_leave_14 : decode cX11_leave 14 = .ok (.ireturn, 1) := by decide +kernel
theorem dX11_leave_15 : decode cX11_leave 15 = .ok (.aload_n 0, 1) := by decide +kernel
theorem dX11_leave_16 : decode cX11_leave 16 = .ok (.invokevirtual 182, 3) := by decide +kernel
theorem dX11_leave_19 : decode cX11_leave 19 = .ok (.aload_n 0, 1) := by decide +kernel
theorem dX11_leave_20 : decode cX11_leave 20 = .ok (.iload_n 1, 1) := by decide +kernel
theorem dX11_leave_21 : decode cX11_leave 21 = .ok (.invokevirtual 191, 3) := by decide +kernel
theorem dX11_leave_24 : decode cX11_leave 24 = .ok (.aload_n 0, 1) := by decide +kernel
theorem dX11_leave_25 : decode cX11_leave 25 = .ok (.getfield 7, 3) := by decide +kernel
theorem dX11_leave_28 : decode cX11_leave 28 = .ok (.bipush 13, 2) := by decide +kernel
theorem dX11_leave_30 : decode cX11_leave 30 = .ok (.iaload, 1) := by decide +kernel
theorem dX11_leave_31 : decode cX11_leave 31 = .ok (.ireturn, 1) := by decide +kernel
set_option maxRecDepth 20000 in
theorem ggX11_moves_X11_of : GoodIn wsX11_moves wsX11_of := goodIn_r _ [7, 1, 15, 16, 17, 18, 19, 20, 21, 22, 23, 24, 25, 26, 27, 28, 29, 30, 31, 32, 33, 34, 35, 36, 37, 38, 39, 40, 41, 42, 43, 44] (by decide +kernel) (by decide +kernel)
set_option maxRecDepth 20000 in
theorem gX11_moves_X11_of : GoodIn wsX11_moves (wsV RX11 74 RX11 yX11_of wsX11_of) := goodIn_app (goodIn_of _ (by decide +kernel)) ggX11_moves_X11_of
set_option maxRecDepth 20000 in
theorem ggX11_moves_X11_in : GoodIn wsX11_moves wsX11_in := goodIn_r _ [10] (by decide +kernel) (by decide +kernel)
set_option maxRecDepth 20000 in
theorem gX11_moves_X11_in : GoodIn wsX11_moves (va_wsS RX11 70 yX11_in wsX11_in) := goodIn_app (goodIn_of _ (by decide +kernel)) ggX11_moves_X11_in
set_option maxRecDepth 20000 in
theorem ggX11_moves_X11_goes : GoodIn wsX11_moves wsX11_goes := goodIn_r _ [14, 1, 15, 16, 17, 18, 19, 20, 21, 22, 23, 24, 25, 26, 27, 28, 29, 30, 31, 32, 33, 34, 35, 36, 37, 38, 39, 40, 41, 42, 43, 44] (by decide +kernel) (by decide +kernel)
set_option maxRecDepth 20000 in
theorem gX11_moves_X11_goes : GoodIn wsX11_moves (wsV RX11 191 RX11 yX11_goes wsX11_goes) := goodIn_app (goodIn_of _ (by decide +kernel)) ggX11_moves_X11_goes
theorem dX11_moves_0 : decode cX11_moves 0 = .ok (.iconst 0, 1) := by decide +kernel
theorem dX11_moves_1 : decode cX11_moves 1 = .ok (.istore_n 2, 1) := by decide +kernel
theorem dX11_moves_2 : decode cX11_moves 2 = .ok (.aload_n 0, 1) := by decide +kernel
theorem dX11_moves_3 : decode cX11_moves 3 = .ok (.getfield 7, 3) := by decide +kernel
theorem dX11_moves_6 : decode cX11_moves 6 = .ok (.bipush 13, 2) := by decide +kernel
theorem dX11_moves_8 : decode cX11_moves 8 = .ok (.iaload, 1) := by decide +kernel
theorem dX11_moves_9 : decode cX11_moves 9 = .ok (.iconst 1, 1) := by decide +kernel
theorem dX11_moves_10 : decode cX11_moves 10 = .ok (.isub, 1) := by decide +kernel
theorem dX11_moves_11 : decode cX11_moves 11 = .ok (.istore_n 3, 1) := by decide +kernel
theorem dX11_moves_12 : decode cX11_moves 12 = .ok (.iload_n 3, 1) := by decide +kernel
theorem dX11_moves_13 : decode cX11_moves 13 = .ok (.ifCond .lt 56, 3) := by decide +kernel
theorem dX11_moves_16 : decode cX11_moves 16 = .ok (.aload_n 0, 1) := by decide +kernel
theorem dX11_moves_17 : decode cX11_moves 17 = .ok (.getfield 7, 3) := by decide +kernel
theorem dX11_moves_20 : decode cX11_moves 20 = .ok (.bipush 14, 2) := by decide +kernel
theorem dX11_moves_22 : decode cX11_moves 22 = .ok (.iconst 3, 1) := by decide +kernel
theorem dX11_moves_23 : decode cX11_moves 23 = .ok (.iload_n 3, 1) := by decide +kernel
theorem dX11_moves_24 : decode cX11_moves 24 = .ok (.imul, 1) := by decide +kernel
theorem dX11_moves_25 : decode cX11_moves 25 = .ok (.iadd, 1) := by decide +kernel
theorem dX11_moves_26 : decode cX11_moves 26 = .ok (.iconst 0, 1) := by decide +kernel
theorem dX11_moves_27 : decode cX11_moves 27 = .ok (.iadd, 1) := by decide +kernel
theorem dX11_moves_28 : decode cX11_moves 28 = .ok (.dup2, 1) := by decide +kernel
theorem dX11_moves_29 : decode cX11_moves 29 = .ok (.iaload, 1) := by decide +kernel
theorem dX11_moves_30 : decode cX11_moves 30 = .ok (.iload_n 1, 1) := by decide +kernel
theorem dX11_moves_31 : decode cX11_moves 31 = .ok (.aload_n 0, 1) := by decide +kernel
theorem dX11_moves_32 : decode cX11_moves 32 = .ok (.iload_n 3, 1) := by decide +kernel
theorem dX11_moves_33 : decode cX11_moves 33 = .ok (.iconst 1, 1) := by decide +kernel
theorem dX11_moves_34 : decode cX11_moves 34 = .ok (.invokevirtual 74, 3) := by decide +kernel
theorem dX11_moves_37 : decode cX11_moves 37 = .ok (.imul, 1) := by decide +kernel
theorem dX11_moves_38 : decode cX11_moves 38 = .ok (.iadd, 1) := by decide +kernel
theorem dX11_moves_39 : decode cX11_moves 39 = .ok (.iastore, 1) := by decide +kernel
theorem dX11_moves_40 : decode cX11_moves 40 = .ok (.aload_n 0, 1) := by decide +kernel
theorem dX11_moves_41 : decode cX11_moves 41 = .ok (.iload_n 3, 1) := by decide +kernel
theorem dX11_moves_42 : decode cX11_moves 42 = .ok (.iconst 0, 1) := by decide +kernel
theorem dX11_moves_43 : decode cX11_moves 43 = .ok (.invokevirtual 74, 3) := by decide +kernel
theorem dX11_moves_46 : decode cX11_moves 46 = .ok (.iconst 0, 1) := by decide +kernel
theorem dX11_moves_47 : decode cX11_moves 47 = .ok (.ldc 195, 2) := by decide +kernel
theorem dX11_moves_49 : decode cX11_moves 49 = .ok (.invokestatic 70, 3) := by decide +kernel
theorem dX11_moves_52 : decode cX11_moves 52 = .ok (.ifCond .ne 11, 3) := by decide +kernel
theorem dX11_moves_55 : decode cX11_moves 55 = .ok (.aload_n 0, 1) := by decide +kernel
theorem dX11_moves_56 : decode cX11_moves 56 = .ok (.iload_n 3, 1) := by decide +kernel
theorem dX11_moves_57 : decode cX11_moves 57 = .ok (.invokevirtual 191, 3) := by decide +kernel
theorem dX11_moves_60 : decode cX11_moves 60 = .ok (.iinc 2 1, 3) := by decide +kernel
theorem dX11_moves_63 : decode cX11_moves 63 = .ok (.iinc 3 (-1), 3) := by decide +kernel
theorem dX11_moves_66 : decode cX11_moves 66 = .ok (.goto (-54), 3) := by decide +kernel
theorem dX11_moves_69 : decode cX11_moves 69 = .ok (.iload_n 2, 1) := by decide +kernel
theorem dX11_moves_70 : decode cX11_moves 70 = .ok (.ireturn, 1) := by decide +kernel
set_option maxRecDepth 20000 in
theorem ggX11_move_X11_in : GoodIn wsX11_move wsX11_in := goodIn_r _ [7] (by decide +kernel) (by decide +kernel)
set_option maxRecDepth 20000 in
theorem gX11_move_X11_in : GoodIn wsX11_move (va_wsS RX11 70 yX11_in wsX11_in) := goodIn_app (goodIn_of _ (by decide +kernel)) ggX11_move_X11_in
set_option maxRecDepth 20000 in
theorem ggX11_move_X11_keeps : GoodIn wsX11_move wsX11_keeps := goodIn_r _ [11, 12, 13, 2, 27, 28, 29, 30, 31, 32, 33, 34, 35, 36, 37, 38, 39, 40, 41, 42, 43, 44, 45, 46, 47, 48, 49, 50, 51, 52, 53, 54, 55, 56] (by decide +kernel) (by decide +kernel)
set_option maxRecDepth 20000 in
theorem gX11_move_X11_keeps : GoodIn wsX11_move (wsV RX11 182 RX11 yX11_keeps wsX11_keeps) := goodIn_app (goodIn_of _ (by decide +kernel)) ggX11_move_X11_keeps
set_option maxRecDepth 20000 in
theorem ggX11_move_X11_moves : GoodIn wsX11_move wsX11_moves := goodIn_r _ [17, 2, 18, 19, 20, 21, 6, 22, 4, 5, 7, 23, 24, 25, 26, 27, 28, 29, 30, 31, 32, 33, 34, 35, 36, 37, 38, 39, 40, 41, 42, 43, 44, 45, 46, 47, 48, 49, 50, 51, 52, 53, 54, 55, 56] (by decide +kernel) (by decide +kernel)
set_option maxRecDepth 20000 in
theorem gX11_move_X11_moves : GoodIn wsX11_move (wsV RX11 197 RX11 yX11_moves wsX11_moves) := goodIn_app (goodIn_of _ (by decide +kernel)) ggX11_move_X11_moves
theorem dX11_move_0 : decode cX11_move 0 = .ok (.aload_n 0, 1) := by decide +kernel
theorem dX11_move_1 : decode cX11_move 1 = .ok (.iconst 0, 1) := by decide +kernel
theorem dX11_move_2 : decode cX11_move 2 = .ok (.putfield 66, 3) := by decide +kernel
theorem dX11_move_5 : decode cX11_move 5 = .ok (.iload_n 1, 1) := by decide +kernel
theorem dX11_move_6 : decode cX11_move 6 = .ok (.iconst 1, 1) := by decide +kernel
theorem dX11_move_7 : decode cX11_move 7 = .ok (.sipush 1000, 3) := by decide +kernel
theorem dX11_move_10 : decode cX11_move 10 = .ok (.invokestatic 70, 3) := by decide +kernel
theorem dX11_move_13 : decode cX11_move 13 = .ok (.ifCond .eq 17, 3) := by decide +kernel
theorem dX11_move_16 : decode cX11_move 16 = .ok (.aload_n 0, 1) := by decide +kernel
theorem dX11_move_17 : decode cX11_move 17 = .ok (.getfield 7, 3) := by decide +kernel
theorem dX11_move_20 : decode cX11_move 20 = .ok (.bipush 38, 2) := by decide +kernel
theorem dX11_move_22 : decode cX11_move 22 = .ok (.iaload, 1) := by decide +kernel
theorem dX11_move_23 : decode cX11_move 23 = .ok (.iload_n 1, 1) := by decide +kernel
theorem dX11_move_24 : decode cX11_move 24 = .ok (.iadd, 1) := by decide +kernel
theorem dX11_move_25 : decode cX11_move 25 = .ok (.ldc 196, 2) := by decide +kernel
theorem dX11_move_27 : decode cX11_move 27 = .ok (.if_icmp .le 5, 3) := by decide +kernel
theorem dX11_move_30 : decode cX11_move 30 = .ok (.iconst (-1), 1) := by decide +kernel
theorem dX11_move_31 : decode cX11_move 31 = .ok (.ireturn, 1) := by decide +kernel
theorem dX11_move_32 : decode cX11_move 32 = .ok (.aload_n 0, 1) := by decide +kernel
theorem dX11_move_33 : decode cX11_move 33 = .ok (.invokevirtual 182, 3) := by decide +kernel
theorem dX11_move_36 : decode cX11_move 36 = .ok (.aload_n 0, 1) := by decide +kernel
theorem dX11_move_37 : decode cX11_move 37 = .ok (.iload_n 1, 1) := by decide +kernel
theorem dX11_move_38 : decode cX11_move 38 = .ok (.invokevirtual 197, 3) := by decide +kernel
theorem dX11_move_41 : decode cX11_move 41 = .ok (.istore_n 2, 1) := by decide +kernel
theorem dX11_move_42 : decode cX11_move 42 = .ok (.aload_n 0, 1) := by decide +kernel
theorem dX11_move_43 : decode cX11_move 43 = .ok (.getfield 7, 3) := by decide +kernel
theorem dX11_move_46 : decode cX11_move 46 = .ok (.bipush 38, 2) := by decide +kernel
theorem dX11_move_48 : decode cX11_move 48 = .ok (.dup2, 1) := by decide +kernel
theorem dX11_move_49 : decode cX11_move 49 = .ok (.iaload, 1) := by decide +kernel
theorem dX11_move_50 : decode cX11_move 50 = .ok (.iload_n 1, 1) := by decide +kernel
theorem dX11_move_51 : decode cX11_move 51 = .ok (.iadd, 1) := by decide +kernel
theorem dX11_move_52 : decode cX11_move 52 = .ok (.iastore, 1) := by decide +kernel
theorem dX11_move_53 : decode cX11_move 53 = .ok (.aload_n 0, 1) := by decide +kernel
theorem dX11_move_54 : decode cX11_move 54 = .ok (.getfield 7, 3) := by decide +kernel
theorem dX11_move_57 : decode cX11_move 57 = .ok (.bipush 39, 2) := by decide +kernel
theorem dX11_move_59 : decode cX11_move 59 = .ok (.dup2, 1) := by decide +kernel
theorem dX11_move_60 : decode cX11_move 60 = .ok (.iaload, 1) := by decide +kernel
theorem dX11_move_61 : decode cX11_move 61 = .ok (.iload_n 2, 1) := by decide +kernel
theorem dX11_move_62 : decode cX11_move 62 = .ok (.iadd, 1) := by decide +kernel
theorem dX11_move_63 : decode cX11_move 63 = .ok (.iastore, 1) := by decide +kernel
theorem dX11_move_64 : decode cX11_move 64 = .ok (.iload_n 2, 1) := by decide +kernel
theorem dX11_move_65 : decode cX11_move 65 = .ok (.ireturn, 1) := by decide +kernel
theorem dX11_lookAt_0 : decode cX11_lookAt 0 = .ok (.aload_n 0, 1) := by decide +kernel
theorem dX11_lookAt_1 : decode cX11_lookAt 1 = .ok (.getfield 7, 3) := by decide +kernel
theorem dX11_lookAt_4 : decode cX11_lookAt 4 = .ok (.bipush 41, 2) := by decide +kernel
theorem dX11_lookAt_6 : decode cX11_lookAt 6 = .ok (.bipush 14, 2) := by decide +kernel
theorem dX11_lookAt_8 : decode cX11_lookAt 8 = .ok (.iload_n 1, 1) := by decide +kernel
theorem dX11_lookAt_9 : decode cX11_lookAt 9 = .ok (.imul, 1) := by decide +kernel
theorem dX11_lookAt_10 : decode cX11_lookAt 10 = .ok (.iadd, 1) := by decide +kernel
theorem dX11_lookAt_11 : decode cX11_lookAt 11 = .ok (.iload_n 2, 1) := by decide +kernel
theorem dX11_lookAt_12 : decode cX11_lookAt 12 = .ok (.iadd, 1) := by decide +kernel
theorem dX11_lookAt_13 : decode cX11_lookAt 13 = .ok (.iaload, 1) := by decide +kernel
theorem dX11_lookAt_14 : decode cX11_lookAt 14 = .ok (.ireturn, 1) := by decide +kernel
set_option maxRecDepth 20000 in
theorem ggX11_look_X11_lookAt : GoodIn wsX11_look wsX11_lookAt := goodIn_r _ [9, 2, 57, 58, 59, 60, 61, 62, 63, 64, 65, 66, 67, 68, 69, 70, 71, 72, 73, 74, 75, 76, 77, 78, 79, 80, 81, 82, 83, 84, 85, 86] (by decide +kernel) (by decide +kernel)
set_option maxRecDepth 20000 in
theorem gX11_look_X11_lookAt : GoodIn wsX11_look (wsV RX11 200 RX11 yX11_lookAt wsX11_lookAt) := goodIn_app (goodIn_of _ (by decide +kernel)) ggX11_look_X11_lookAt
set_option maxRecDepth 20000 in
theorem ggX11_look_X11_keeps : GoodIn wsX11_look wsX11_keeps := goodIn_r _ [13, 14, 15, 2, 57, 58, 59, 60, 61, 62, 63, 64, 65, 66, 67, 68, 69, 70, 71, 72, 73, 74, 75, 76, 77, 78, 79, 80, 81, 82, 83, 84, 85, 86] (by decide +kernel) (by decide +kernel)
set_option maxRecDepth 20000 in
theorem gX11_look_X11_keeps : GoodIn wsX11_look (wsV RX11 182 RX11 yX11_keeps wsX11_keeps) := goodIn_app (goodIn_of _ (by decide +kernel)) ggX11_look_X11_keeps
set_option maxRecDepth 20000 in
theorem ggX11_look_X11_laysPicture : GoodIn wsX11_look wsX11_laysPicture := goodIn_r _ [19, 20, 21, 2, 3, 4, 22, 23, 24, 25, 8, 26, 27, 28, 29, 30, 31, 32, 33, 34, 35, 36, 37, 38, 39, 40, 41, 42, 43, 44, 45, 46, 47, 48, 49, 50, 51, 52, 53, 57, 58, 59, 60, 61, 62, 63, 64, 65, 66, 67, 68, 69, 70, 71, 72, 73, 74, 75, 76, 77, 78, 79, 80, 81, 82, 83, 84, 85, 86] (by decide +kernel) (by decide +kernel)
set_option maxRecDepth 20000 in
theorem gX11_look_X11_laysPicture : GoodIn wsX11_look (wsV RX11 203 RX11 yX11_laysPicture wsX11_laysPicture) := goodIn_app (goodIn_of _ (by decide +kernel)) ggX11_look_X11_laysPicture
set_option maxRecDepth 20000 in
theorem ggX11_look_X11_lesser : GoodIn wsX11_look wsX11_lesser := goodIn_r _ [56] (by decide +kernel) (by decide +kernel)
set_option maxRecDepth 20000 in
theorem gX11_look_X11_lesser : GoodIn wsX11_look (va_wsS RX11 209 yX11_lesser wsX11_lesser) := goodIn_app (goodIn_of _ (by decide +kernel)) ggX11_look_X11_lesser
theorem dX11_look_0 : decode cX11_look 0 = .ok (.aload_n 0, 1) := by decide +kernel
theorem dX11_look_1 : decode cX11_look 1 = .ok (.iconst 0, 1) := by decide +kernel
theorem dX11_look_2 : decode cX11_look 2 = .ok (.putfield 66, 3) := by decide +kernel
theorem dX11_look_5 : decode cX11_look 5 = .ok (.aload_n 0, 1) := by decide +kernel
theorem dX11_look_6 : decode cX11_look 6 = .ok (.getfield 7, 3) := by decide +kernel
theorem dX11_look_9 : decode cX11_look 9 = .ok (.bipush 40, 2) := by decide +kernel
theorem dX11_look_11 : decode cX11_look 11 = .ok (.iaload, 1) := by decide +kernel
theorem dX11_look_12 : decode cX11_look 12 = .ok (.ifCond .le 29, 3) := by decide +kernel
theorem dX11_look_15 : decode cX11_look 15 = .ok (.aload_n 0, 1) := by decide +kernel
theorem dX11_look_16 : decode cX11_look 16 = .ok (.aload_n 0, 1) := by decide +kernel
theorem dX11_look_17 : decode cX11_look 17 = .ok (.getfield 7, 3) := by decide +kernel
theorem dX11_look_20 : decode cX11_look 20 = .ok (.bipush 40, 2) := by decide +kernel
theorem dX11_look_22 : decode cX11_look 22 = .ok (.iaload, 1) := by decide +kernel
theorem dX11_look_23 : decode cX11_look 23 = .ok (.iconst 1, 1) := by decide +kernel
theorem dX11_look_24 : decode cX11_look 24 = .ok (.isub, 1) := by decide +kernel
theorem dX11_look_25 : decode cX11_look 25 = .ok (.iconst 0, 1) := by decide +kernel
theorem dX11_look_26 : decode cX11_look 26 = .ok (.invokevirtual 200, 3) := by decide +kernel
theorem dX11_look_29 : decode cX11_look 29 = .ok (.aload_n 0, 1) := by decide +kernel
theorem dX11_look_30 : decode cX11_look 30 = .ok (.getfield 7, 3) := by decide +kernel
theorem dX11_look_33 : decode cX11_look 33 = .ok (.bipush 38, 2) := by decide +kernel
theorem dX11_look_35 : decode cX11_look 35 = .ok (.iaload, 1) := by decide +kernel
theorem dX11_look_36 : decode cX11_look 36 = .ok (.if_icmp .ne 5, 3) := by decide +kernel
theorem dX11_look_39 : decode cX11_look 39 = .ok (.iconst (-1), 1) := by decide +kernel
theorem dX11_look_40 : decode cX11_look 40 = .ok (.ireturn, 1) := by decide +kernel
theorem dX11_look_41 : decode cX11_look 41 = .ok (.aload_n 0, 1) := by decide +kernel
theorem dX11_look_42 : decode cX11_look 42 = .ok (.invokevirtual 182, 3) := by decide +kernel
theorem dX11_look_45 : decode cX11_look 45 = .ok (.aload_n 0, 1) := by decide +kernel
theorem dX11_look_46 : decode cX11_look 46 = .ok (.getfield 7, 3) := by decide +kernel
theorem dX11_look_49 : decode cX11_look 49 = .ok (.bipush 40, 2) := by decide +kernel
theorem dX11_look_51 : decode cX11_look 51 = .ok (.iaload, 1) := by decide +kernel
theorem dX11_look_52 : decode cX11_look 52 = .ok (.iconst 4, 1) := by decide +kernel
theorem dX11_look_53 : decode cX11_look 53 = .ok (.if_icmp .ne 49, 3) := by decide +kernel
theorem dX11_look_56 : decode cX11_look 56 = .ok (.iconst 0, 1) := by decide +kernel
theorem dX11_look_57 : decode cX11_look 57 = .ok (.istore_n 1, 1) := by decide +kernel
theorem dX11_look_58 : decode cX11_look 58 = .ok (.iload_n 1, 1) := by decide +kernel
theorem dX11_look_59 : decode cX11_look 59 = .ok (.bipush 42, 2) := by decide +kernel
theorem dX11_look_61 : decode cX11_look 61 = .ok (.if_icmp .ge 30, 3) := by decide +kernel
theorem dX11_look_64 : decode cX11_look 64 = .ok (.aload_n 0, 1) := by decide +kernel
theorem dX11_look_65 : decode cX11_look 65 = .ok (.getfield 7, 3) := by decide +kernel
theorem dX11_look_68 : decode cX11_look 68 = .ok (.bipush 41, 2) := by decide +kernel
theorem dX11_look_70 : decode cX11_look 70 = .ok (.iload_n 1, 1) := by decide +kernel
theorem dX11_look_71 : decode cX11_look 71 = .ok (.iadd, 1) := by decide +kernel
theorem dX11_look_72 : decode cX11_look 72 = .ok (.aload_n 0, 1) := by decide +kernel
theorem dX11_look_73 : decode cX11_look 73 = .ok (.getfield 7, 3) := by decide +kernel
theorem dX11_look_76 : decode cX11_look 76 = .ok (.bipush 41, 2) := by decide +kernel
theorem dX11_look_78 : decode cX11_look 78 = .ok (.iload_n 1, 1) := by decide +kernel
theorem dX11_look_79 : decode cX11_look 79 = .ok (.iadd, 1) := by decide +kernel
theorem dX11_look_80 : decode cX11_look 80 = .ok (.bipush 14, 2) := by decide +kernel
theorem dX11_look_82 : decode cX11_look 82 = .ok (.iadd, 1) := by decide +kernel
theorem dX11_look_83 : decode cX11_look 83 = .ok (.iaload, 1) := by decide +kernel
theorem dX11_look_84 : decode cX11_look 84 = .ok (.iastore, 1) := by decide +kernel
theorem dX11_look_85 : decode cX11_look 85 = .ok (.iinc 1 1, 3) := by decide +kernel
theorem dX11_look_88 : decode cX11_look 88 = .ok (.goto (-30), 3) := by decide +kernel
theorem dX11_look_91 : decode cX11_look 91 = .ok (.aload_n 0, 1) := by decide +kernel
theorem dX11_look_92 : decode cX11_look 92 = .ok (.getfield 7, 3) := by decide +kernel
theorem dX11_look_95 : decode cX11_look 95 = .ok (.bipush 40, 2) := by decide +kernel
theorem dX11_look_97 : decode cX11_look 97 = .ok (.dup2, 1) := by decide +kernel
theorem dX11_look_98 : decode cX11_look 98 = .ok (.iaload, 1) := by decide +kernel
theorem dX11_look_99 : decode cX11_look 99 = .ok (.iconst 1, 1) := by decide +kernel
theorem dX11_look_100 : decode cX11_look 100 = .ok (.isub, 1) := by decide +kernel
theorem dX11_look_101 : decode cX11_look 101 = .ok (.iastore, 1) := by decide +kernel
theorem dX11_look_102 : decode cX11_look 102 = .ok (.aload_n 0, 1) := by decide +kernel
theorem dX11_look_103 : decode cX11_look 103 = .ok (.invokevirtual 203, 3) := by decide +kernel
theorem dX11_look_106 : decode cX11_look 106 = .ok (.bipush 41, 2) := by decide +kernel
theorem dX11_look_108 : decode cX11_look 108 = .ok (.bipush 14, 2) := by decide +kernel
theorem dX11_look_110 : decode cX11_look 110 = .ok (.aload_n 0, 1) := by decide +kernel
theorem dX11_look_111 : decode cX11_look 111 = .ok (.getfield 7, 3) := by decide +kernel
theorem dX11_look_114 : decode cX11_look 114 = .ok (.bipush 40, 2) := by decide +kernel
theorem dX11_look_116 : decode cX11_look 116 = .ok (.iaload, 1) := by decide +kernel
theorem dX11_look_117 : decode cX11_look 117 = .ok (.imul, 1) := by decide +kernel
theorem dX11_look_118 : decode cX11_look 118 = .ok (.iadd, 1) := by decide +kernel
theorem dX11_look_119 : decode cX11_look 119 = .ok (.istore_n 1, 1) := by decide +kernel
theorem dX11_look_120 : decode cX11_look 120 = .ok (.bipush 12, 2) := by decide +kernel
theorem dX11_look_122 : decode cX11_look 122 = .ok (.aload_n 0, 1) := by decide +kernel
theorem dX11_look_123 : decode cX11_look 123 = .ok (.getfield 206, 3) := by decide +kernel
theorem dX11_look_126 : decode cX11_look 126 = .ok (.invokestatic 209, 3) := by decide +kernel
theorem dX11_look_129 : decode cX11_look 129 = .ok (.istore_n 2, 1) := by decide +kernel
theorem dX11_look_130 : decode cX11_look 130 = .ok (.aload_n 0, 1) := by decide +kernel
theorem dX11_look_131 : decode cX11_look 131 = .ok (.getfield 7, 3) := by decide +kernel
theorem dX11_look_134 : decode cX11_look 134 = .ok (.iload_n 1, 1) := by decide +kernel
theorem dX11_look_135 : decode cX11_look 135 = .ok (.aload_n 0, 1) := by decide +kernel
theorem dX11_look_136 : decode cX11_look 136 = .ok (.getfield 7, 3) := by decide +kernel
theorem dX11_look_139 : decode cX11_look 139 = .ok (.bipush 38, 2) := by decide +kernel
theorem dX11_look_141 : decode cX11_look 141 = .ok (.iaload, 1) := by decide +kernel
theorem dX11_look_142 : decode cX11_look 142 = .ok (.iastore, 1) := by decide +kernel
theorem dX11_look_143 : decode cX11_look 143 = .ok (.aload_n 0, 1) := by decide +kernel
theorem dX11_look_144 : decode cX11_look 144 = .ok (.getfield 7, 3) := by decide +kernel
theorem dX11_look_147 : decode cX11_look 147 = .ok (.iload_n 1, 1) := by decide +kernel
theorem dX11_look_148 : decode cX11_look 148 = .ok (.iconst 1, 1) := by decide +kernel
theorem dX11_look_149 : decode cX11_look 149 = .ok (.iadd, 1) := by decide +kernel
theorem dX11_look_150 : decode cX11_look 150 = .ok (.iload_n 2, 1) := by decide +kernel
theorem dX11_look_151 : decode cX11_look 151 = .ok (.iastore, 1) := by decide +kernel
theorem dX11_look_152 : decode cX11_look 152 = .ok (.iconst 0, 1) := by decide +kernel
theorem dX11_look_153 : decode cX11_look 153 = .ok (.istore_n 3, 1) := by decide +kernel
theorem dX11_look_154 : decode cX11_look 154 = .ok (.iload_n 3, 1) := by decide +kernel
theorem dX11_look_155 : decode cX11_look 155 = .ok (.bipush 12, 2) := by decide +kernel
theorem dX11_look_157 : decode cX11_look 157 = .ok (.if_icmp .ge 34, 3) := by decide +kernel
theorem dX11_look_160 : decode cX11_look 160 = .ok (.aload_n 0, 1) := by decide +kernel
theorem dX11_look_161 : decode cX11_look 161 = .ok (.getfield 7, 3) := by decide +kernel
theorem dX11_look_164 : decode cX11_look 164 = .ok (.iload_n 1, 1) := by decide +kernel
theorem dX11_look_165 : decode cX11_look 165 = .ok (.iconst 2, 1) := by decide +kernel
theorem dX11_look_166 : decode cX11_look 166 = .ok (.iadd, 1) := by decide +kernel
theorem dX11_look_167 : decode cX11_look 167 = .ok (.iload_n 3, 1) := by decide +kernel
theorem dX11_look_168 : decode cX11_look 168 = .ok (.iadd, 1) := by decide +kernel
theorem dX11_look_169 : decode cX11_look 169 = .ok (.iload_n 3, 1) := by decide +kernel
theorem dX11_look_170 : decode cX11_look 170 = .ok (.iload_n 2, 1) := by decide +kernel
theorem dX11_look_171 : decode cX11_look 171 = .ok (.if_icmp .ge 12, 3) := by decide +kernel
theorem dX11_look_174 : decode cX11_look 174 = .ok (.aload_n 0, 1) := by decide +kernel
theorem dX11_look_175 : decode cX11_look 175 = .ok (.getfield 30, 3) := by decide +kernel
theorem dX11_look_178 : decode cX11_look 178 = .ok (.iload_n 3, 1) := by decide +kernel
theorem dX11_look_179 : decode cX11_look 179 = .ok (.iaload, 1) := by decide +kernel
theorem dX11_look_180 : decode cX11_look 180 = .ok (.goto 4, 3) := by decide +kernel
theorem dX11_look_183 : decode cX11_look 183 = .ok (.iconst 0, 1) := by decide +kernel
theorem dX11_look_184 : decode cX11_look 184 = .ok (.iastore, 1) := by decide +kernel
theorem dX11_look_185 : decode cX11_look 185 = .ok (.iinc 3 1, 3) := by decide +kernel
theorem dX11_look_188 : decode cX11_look 188 = .ok (.goto (-34), 3) := by decide +kernel
theorem dX11_look_191 : decode cX11_look 191 = .ok (.aload_n 0, 1) := by decide +kernel
theorem dX11_look_192 : decode cX11_look 192 = .ok (.getfield 7, 3) := by decide +kernel
theorem dX11_look_195 : decode cX11_look 195 = .ok (.bipush 40, 2) := by decide +kernel
theorem dX11_look_197 : decode cX11_look 197 = .ok (.dup2, 1) := by decide +kernel
theorem dX11_look_198 : decode cX11_look 198 = .ok (.iaload, 1) := by decide +kernel
theorem dX11_look_199 : decode cX11_look 199 = .ok (.iconst 1, 1) := by decide +kernel
theorem dX11_look_200 : decode cX11_look 200 = .ok (.iadd, 1) := by decide +kernel
theorem dX11_look_201 : decode cX11_look 201 = .ok (.iastore, 1) := by decide +kernel
theorem dX11_look_202 : decode cX11_look 202 = .ok (.iload_n 2, 1) := by decide +kernel
theorem dX11_look_203 : decode cX11_look 203 = .ok (.ireturn, 1) := by decide +kernel
theorem dX11_undo_0 : decode cX11_undo 0 = .ok (.aload_n 0, 1) := by decide +kernel
theorem dX11_undo_1 : decode cX11_undo 1 = .ok (.iconst 0, 1) := by decide +kernel
theorem dX11_undo_2 : decode cX11_undo 2 = .ok (.putfield 66, 3) := by decide +kernel
theorem dX11_undo_5 : decode cX11_undo 5 = .ok (.aload_n 0, 1) := by decide +kernel
theorem dX11_undo_6 : decode cX11_undo 6 = .ok (.getfield 176, 3) := by decide +kernel
theorem dX11_undo_9 : decode cX11_undo 9 = .ok (.ifCond .ne 5, 3) := by decide +kernel
theorem dX11_undo_12 : decode cX11_undo 12 = .ok (.iconst (-1), 1) := by decide +kernel
theorem dX11_undo_13 : decode cX11_undo 13 = .ok (.ireturn, 1) := by decide +kernel
theorem dX11_undo_14 : decode cX11_undo 14 = .ok (.aload_n 0, 1) := by decide +kernel
theorem dX11_undo_15 : decode cX11_undo 15 = .ok (.dup, 1) := by decide +kernel
theorem dX11_undo_16 : decode cX11_undo 16 = .ok (.getfield 176, 3) := by decide +kernel
theorem dX11_undo_19 : decode cX11_undo 19 = .ok (.iconst 1, 1) := by decide +kernel
theorem dX11_undo_20 : decode cX11_undo 20 = .ok (.isub, 1) := by decide +kernel
theorem dX11_undo_21 : decode cX11_undo 21 = .ok (.putfield 176, 3) := by decide +kernel
theorem dX11_undo_24 : decode cX11_undo 24 = .ok (.iconst 0, 1) := by decide +kernel
theorem dX11_undo_25 : decode cX11_undo 25 = .ok (.istore_n 1, 1) := by decide +kernel
theorem dX11_undo_26 : decode cX11_undo 26 = .ok (.iload_n 1, 1) := by decide +kernel
theorem dX11_undo_27 : decode cX11_undo 27 = .ok (.bipush 97, 2) := by decide +kernel
theorem dX11_undo_29 : decode cX11_undo 29 = .ok (.if_icmp .ge 29, 3) := by decide +kernel
theorem dX11_undo_32 : decode cX11_undo 32 = .ok (.aload_n 0, 1) := by decide +kernel
theorem dX11_undo_33 : decode cX11_undo 33 = .ok (.getfield 7, 3) := by decide +kernel
theorem dX11_undo_36 : decode cX11_undo 36 = .ok (.iload_n 1, 1) := by decide +kernel
theorem dX11_undo_37 : decode cX11_undo 37 = .ok (.aload_n 0, 1) := by decide +kernel
theorem dX11_undo_38 : decode cX11_undo 38 = .ok (.getfield 21, 3) := by decide +kernel
theorem dX11_undo_41 : decode cX11_undo 41 = .ok (.bipush 97, 2) := by decide +kernel
theorem dX11_undo_43 : decode cX11_undo 43 = .ok (.aload_n 0, 1) := by decide +kernel
theorem dX11_undo_44 : decode cX11_undo 44 = .ok (.getfield 176, 3) := by decide +kernel
theorem dX11_undo_47 : decode cX11_undo 47 = .ok (.imul, 1) := by decide +kernel
theorem dX11_undo_48 : decode cX11_undo 48 = .ok (.iload_n 1, 1) := by decide +kernel
theorem dX11_undo_49 : decode cX11_undo 49 = .ok (.iadd, 1) := by decide +kernel
theorem dX11_undo_50 : decode cX11_undo 50 = .ok (.iaload, 1) := by decide +kernel
theorem dX11_undo_51 : decode cX11_undo 51 = .ok (.iastore, 1) := by decide +kernel
theorem dX11_undo_52 : decode cX11_undo 52 = .ok (.iinc 1 1, 3) := by decide +kernel
theorem dX11_undo_55 : decode cX11_undo 55 = .ok (.goto (-29), 3) := by decide +kernel
theorem dX11_undo_58 : decode cX11_undo 58 = .ok (.aload_n 0, 1) := by decide +kernel
theorem dX11_undo_59 : decode cX11_undo 59 = .ok (.getfield 176, 3) := by decide +kernel
theorem dX11_undo_62 : decode cX11_undo 62 = .ok (.ireturn, 1) := by decide +kernel
theorem dX11_rest_0 : decode cX11_rest 0 = .ok (.iload_n 0, 1) := by decide +kernel
theorem dX11_rest_1 : decode cX11_rest 1 = .ok (.iload_n 1, 1) := by decide +kernel
theorem dX11_rest_2 : decode cX11_rest 2 = .ok (.irem, 1) := by decide +kernel
theorem dX11_rest_3 : decode cX11_rest 3 = .ok (.istore_n 2, 1) := by decide +kernel
theorem dX11_rest_4 : decode cX11_rest 4 = .ok (.iload_n 2, 1) := by decide +kernel
theorem dX11_rest_5 : decode cX11_rest 5 = .ok (.ifCond .ge 9, 3) := by decide +kernel
theorem dX11_rest_8 : decode cX11_rest 8 = .ok (.iload_n 2, 1) := by decide +kernel
theorem dX11_rest_9 : decode cX11_rest 9 = .ok (.iload_n 1, 1) := by decide +kernel
theorem dX11_rest_10 : decode cX11_rest 10 = .ok (.iadd, 1) := by decide +kernel
theorem dX11_rest_11 : decode cX11_rest 11 = .ok (.goto 4, 3) := by decide +kernel
theorem dX11_rest_14 : decode cX11_rest 14 = .ok (.iload_n 2, 1) := by decide +kernel
theorem dX11_rest_15 : decode cX11_rest 15 = .ok (.ireturn, 1) := by decide +kernel
set_option maxRecDepth 20000 in
theorem ggX11_isBlind_X11_rest : GoodIn wsX11_isBlind wsX11_rest := goodIn_r _ [5] (by decide +kernel) (by decide +kernel)
set_option maxRecDepth 20000 in
theorem gX11_isBlind_X11_rest : GoodIn wsX11_isBlind (va_wsS RX11 212 yX11_rest wsX11_rest) := goodIn_app (goodIn_of _ (by decide +kernel)) ggX11_isBlind_X11_rest
theorem dX11_isBlind_0 : decode cX11_isBlind 0 = .ok (.iload_n 1, 1) := by decide +kernel
theorem dX11_isBlind_1 : decode cX11_isBlind 1 = .ok (.iload_n 2, 1) := by decide +kernel
theorem dX11_isBlind_2 : decode cX11_isBlind 2 = .ok (.imul, 1) := by decide +kernel
theorem dX11_isBlind_3 : decode cX11_isBlind 3 = .ok (.aload_n 0, 1) := by decide +kernel
theorem dX11_isBlind_4 : decode cX11_isBlind 4 = .ok (.getfield 7, 3) := by decide +kernel
theorem dX11_isBlind_7 : decode cX11_isBlind 7 = .ok (.bipush 6, 2) := by decide +kernel
theorem dX11_isBlind_9 : decode cX11_isBlind 9 = .ok (.iaload, 1) := by decide +kernel
theorem dX11_isBlind_10 : decode cX11_isBlind 10 = .ok (.invokestatic 212, 3) := by decide +kernel
theorem dX11_isBlind_13 : decode cX11_isBlind 13 = .ok (.istore_n 3, 1) := by decide +kernel
theorem dX11_isBlind_14 : decode cX11_isBlind 14 = .ok (.iload_n 3, 1) := by decide +kernel
theorem dX11_isBlind_15 : decode cX11_isBlind 15 = .ok (.aload_n 0, 1) := by decide +kernel
theorem dX11_isBlind_16 : decode cX11_isBlind 16 = .ok (.getfield 7, 3) := by decide +kernel
theorem dX11_isBlind_19 : decode cX11_isBlind 19 = .ok (.bipush 7, 2) := by decide +kernel
theorem dX11_isBlind_21 : decode cX11_isBlind 21 = .ok (.iaload, 1) := by decide +kernel
theorem dX11_isBlind_22 : decode cX11_isBlind 22 = .ok (.if_icmp .le 22, 3) := by decide +kernel
theorem dX11_isBlind_25 : decode cX11_isBlind 25 = .ok (.iload_n 3, 1) := by decide +kernel
theorem dX11_isBlind_26 : decode cX11_isBlind 26 = .ok (.aload_n 0, 1) := by decide +kernel
theorem dX11_isBlind_27 : decode cX11_isBlind 27 = .ok (.getfield 7, 3) := by decide +kernel
theorem dX11_isBlind_30 : decode cX11_isBlind 30 = .ok (.bipush 6, 2) := by decide +kernel
theorem dX11_isBlind_32 : decode cX11_isBlind 32 = .ok (.iaload, 1) := by decide +kernel
theorem dX11_isBlind_33 : decode cX11_isBlind 33 = .ok (.aload_n 0, 1) := by decide +kernel
theorem dX11_isBlind_34 : decode cX11_isBlind 34 = .ok (.getfield 7, 3) := by decide +kernel
theorem dX11_isBlind_37 : decode cX11_isBlind 37 = .ok (.bipush 7, 2) := by decide +kernel
theorem dX11_isBlind_39 : decode cX11_isBlind 39 = .ok (.iaload, 1) := by decide +kernel
theorem dX11_isBlind_40 : decode cX11_isBlind 40 = .ok (.isub, 1) := by decide +kernel
theorem dX11_isBlind_41 : decode cX11_isBlind 41 = .ok (.if_icmp .lt 7, 3) := by decide +kernel
theorem dX11_isBlind_44 : decode cX11_isBlind 44 = .ok (.iconst 1, 1) := by decide +kernel
theorem dX11_isBlind_45 : decode cX11_isBlind 45 = .ok (.goto 4, 3) := by decide +kernel
theorem dX11_isBlind_48 : decode cX11_isBlind 48 = .ok (.iconst 0, 1) := by decide +kernel
theorem dX11_isBlind_49 : decode cX11_isBlind 49 = .ok (.ireturn, 1) := by decide +kernel
set_option maxRecDepth 20000 in
theorem ggX11_blindBits_X11_gapAt : GoodIn wsX11_blindBits wsX11_gapAt := goodIn_r _ [6, 1, 14, 15, 16, 17, 18, 19, 20, 21, 22, 23, 24, 25, 26, 27, 28, 29, 30, 31, 32, 33, 34, 35, 36, 37, 38, 39, 40, 41, 42, 43] (by decide +kernel) (by decide +kernel)
set_option maxRecDepth 20000 in
theorem gX11_blindBits_X11_gapAt : GoodIn wsX11_blindBits (wsV RX11 185 RX11 yX11_gapAt wsX11_gapAt) := goodIn_app (goodIn_of _ (by decide +kernel)) ggX11_blindBits_X11_gapAt
set_option maxRecDepth 20000 in
theorem ggX11_blindBits_X11_isBlind : GoodIn wsX11_blindBits wsX11_isBlind := goodIn_r _ [10, 1, 11, 12, 5, 13, 14, 15, 16, 17, 18, 19, 20, 21, 22, 23, 24, 25, 26, 27, 28, 29, 30, 31, 32, 33, 34, 35, 36, 37, 38, 39, 40, 41, 42, 43] (by decide +kernel) (by decide +kernel)
set_option maxRecDepth 20000 in
theorem gX11_blindBits_X11_isBlind : GoodIn wsX11_blindBits (wsV RX11 215 RX11 yX11_isBlind wsX11_isBlind) := goodIn_app (goodIn_of _ (by decide +kernel)) ggX11_blindBits_X11_isBlind
theorem dX11_blindBits_0 : decode cX11_blindBits 0 = .ok (.iconst 0, 1) := by decide +kernel
theorem dX11_blindBits_1 : decode cX11_blindBits 1 = .ok (.istore_n 2, 1) := by decide +kernel
theorem dX11_blindBits_2 : decode cX11_blindBits 2 = .ok (.iconst 0, 1) := by decide +kernel
theorem dX11_blindBits_3 : decode cX11_blindBits 3 = .ok (.istore_n 3, 1) := by decide +kernel
theorem dX11_blindBits_4 : decode cX11_blindBits 4 = .ok (.iload_n 3, 1) := by decide +kernel
theorem dX11_blindBits_5 : decode cX11_blindBits 5 = .ok (.aload_n 0, 1) := by decide +kernel
theorem dX11_blindBits_6 : decode cX11_blindBits 6 = .ok (.getfield 7, 3) := by decide +kernel
theorem dX11_blindBits_9 : decode cX11_blindBits 9 = .ok (.iconst 0, 1) := by decide +kernel
theorem dX11_blindBits_10 : decode cX11_blindBits 10 = .ok (.iaload, 1) := by decide +kernel
theorem dX11_blindBits_11 : decode cX11_blindBits 11 = .ok (.if_icmp .ge 32, 3) := by decide +kernel
theorem dX11_blindBits_14 : decode cX11_blindBits 14 = .ok (.iload_n 2, 1) := by decide +kernel
theorem dX11_blindBits_15 : decode cX11_blindBits 15 = .ok (.aload_n 0, 1) := by decide +kernel
theorem dX11_blindBits_16 : decode cX11_blindBits 16 = .ok (.iload_n 1, 1) := by decide +kernel
theorem dX11_blindBits_17 : decode cX11_blindBits 17 = .ok (.aload_n 0, 1) := by decide +kernel
theorem dX11_blindBits_18 : decode cX11_blindBits 18 = .ok (.iload_n 3, 1) := by decide +kernel
theorem dX11_blindBits_19 : decode cX11_blindBits 19 = .ok (.invokevirtual 185, 3) := by decide +kernel
theorem dX11_blindBits_22 : decode cX11_blindBits 22 = .ok (.invokevirtual 215, 3) := by decide +kernel
theorem dX11_blindBits_25 : decode cX11_blindBits 25 = .ok (.ifCond .eq 9, 3) := by decide +kernel
theorem dX11_blindBits_28 : decode cX11_blindBits 28 = .ok (.iconst 1, 1) := by decide +kernel
theorem dX11_blindBits_29 : decode cX11_blindBits 29 = .ok (.iload_n 3, 1) := by decide +kernel
theorem dX11_blindBits_30 : decode cX11_blindBits 30 = .ok (.ishl, 1) := by decide +kernel
theorem dX11_blindBits_31 : decode cX11_blindBits 31 = .ok (.goto 4, 3) := by decide +kernel
theorem dX11_blindBits_34 : decode cX11_blindBits 34 = .ok (.iconst 0, 1) := by decide +kernel
theorem dX11_blindBits_35 : decode cX11_blindBits 35 = .ok (.ior, 1) := by decide +kernel
theorem dX11_blindBits_36 : decode cX11_blindBits 36 = .ok (.istore_n 2, 1) := by decide +kernel
theorem dX11_blindBits_37 : decode cX11_blindBits 37 = .ok (.iinc 3 1, 3) := by decide +kernel
theorem dX11_blindBits_40 : decode cX11_blindBits 40 = .ok (.goto (-36), 3) := by decide +kernel
theorem dX11_blindBits_43 : decode cX11_blindBits 43 = .ok (.iload_n 2, 1) := by decide +kernel
theorem dX11_blindBits_44 : decode cX11_blindBits 44 = .ok (.ireturn, 1) := by decide +kernel
set_option maxRecDepth 20000 in
theorem ggX11_isDark_X11_blindBits : GoodIn wsX11_isDark wsX11_blindBits := goodIn_r _ [6, 1, 7, 8, 9, 5, 10, 11, 12, 13, 14, 15, 16, 17, 21, 22, 23, 24, 25, 26, 27, 28, 29, 30, 31, 32, 33, 34, 35, 36, 37, 38, 39, 40, 41, 42, 43, 44, 45, 46, 47, 48, 49, 50] (by decide +kernel) (by decide +kernel)
set_option maxRecDepth 20000 in
theorem gX11_isDark_X11_blindBits : GoodIn wsX11_isDark (wsV RX11 218 RX11 yX11_blindBits wsX11_blindBits) := goodIn_app (goodIn_of _ (by decide +kernel)) ggX11_isDark_X11_blindBits
set_option maxRecDepth 20000 in
theorem ggX11_isDark_X11_ones : GoodIn wsX11_isDark wsX11_ones := goodIn_r _ [20] (by decide +kernel) (by decide +kernel)
set_option maxRecDepth 20000 in
theorem gX11_isDark_X11_ones : GoodIn wsX11_isDark (va_wsS RX11 221 yX11_ones wsX11_ones) := goodIn_app (goodIn_of _ (by decide +kernel)) ggX11_isDark_X11_ones
theorem dX11_isDark_0 : decode cX11_isDark 0 = .ok (.aload_n 0, 1) := by decide +kernel
theorem dX11_isDark_1 : decode cX11_isDark 1 = .ok (.getfield 7, 3) := by decide +kernel
theorem dX11_isDark_4 : decode cX11_isDark 4 = .ok (.iconst 0, 1) := by decide +kernel
theorem dX11_isDark_5 : decode cX11_isDark 5 = .ok (.iaload, 1) := by decide +kernel
theorem dX11_isDark_6 : decode cX11_isDark 6 = .ok (.aload_n 0, 1) := by decide +kernel
theorem dX11_isDark_7 : decode cX11_isDark 7 = .ok (.iload_n 1, 1) := by decide +kernel
theorem dX11_isDark_8 : decode cX11_isDark 8 = .ok (.invokevirtual 218, 3) := by decide +kernel
theorem dX11_isDark_11 : decode cX11_isDark 11 = .ok (.invokestatic 221, 3) := by decide +kernel
theorem dX11_isDark_14 : decode cX11_isDark 14 = .ok (.isub, 1) := by decide +kernel
theorem dX11_isDark_15 : decode cX11_isDark 15 = .ok (.aload_n 0, 1) := by decide +kernel
theorem dX11_isDark_16 : decode cX11_isDark 16 = .ok (.getfield 7, 3) := by decide +kernel
theorem dX11_isDark_19 : decode cX11_isDark 19 = .ok (.bipush 10, 2) := by decide +kernel
theorem dX11_isDark_21 : decode cX11_isDark 21 = .ok (.iaload, 1) := by decide +kernel
theorem dX11_isDark_22 : decode cX11_isDark 22 = .ok (.if_icmp .ge 7, 3) := by decide +kernel
theorem dX11_isDark_25 : decode cX11_isDark 25 = .ok (.iconst 1, 1) := by decide +kernel
theorem dX11_isDark_26 : decode cX11_isDark 26 = .ok (.goto 4, 3) := by decide +kernel
theorem dX11_isDark_29 : decode cX11_isDark 29 = .ok (.iconst 0, 1) := by decide +kernel
theorem dX11_isDark_30 : decode cX11_isDark 30 = .ok (.ireturn, 1) := by decide +kernel
set_option maxRecDepth 20000 in
theorem ggX11_darkMany_X11_isDark : GoodIn wsX11_darkMany wsX11_isDark := goodIn_r _ [6, 1, 7, 8, 9, 5, 10, 11, 12, 13, 14, 15, 16, 17, 18, 19, 20, 21, 22, 23, 24, 25, 26, 27, 28, 29, 30, 31, 32, 33, 34, 35, 36, 37, 38, 39, 40, 41, 42, 43, 44, 45, 46, 47, 48, 49, 50, 51, 52, 53, 54] (by decide +kernel) (by decide +kernel)
set_option maxRecDepth 20000 in
theorem gX11_darkMany_X11_isDark : GoodIn wsX11_darkMany (wsV RX11 224 RX11 yX11_isDark wsX11_isDark) := goodIn_app (goodIn_of _ (by decide +kernel)) ggX11_darkMany_X11_isDark
theorem dX11_darkMany_0 : decode cX11_darkMany 0 = .ok (.iconst 0, 1) := by decide +kernel
theorem dX11_darkMany_1 : decode cX11_darkMany 1 = .ok (.istore_n 1, 1) := by decide +kernel
theorem dX11_darkMany_2 : decode cX11_darkMany 2 = .ok (.iconst 1, 1) := by decide +kernel
theorem dX11_darkMany_3 : decode cX11_darkMany 3 = .ok (.istore_n 2, 1) := by decide +kernel
theorem dX11_darkMany_4 : decode cX11_darkMany 4 = .ok (.iload_n 2, 1) := by decide +kernel
theorem dX11_darkMany_5 : decode cX11_darkMany 5 = .ok (.aload_n 0, 1) := by decide +kernel
theorem dX11_darkMany_6 : decode cX11_darkMany 6 = .ok (.getfield 7, 3) := by decide +kernel
theorem dX11_darkMany_9 : decode cX11_darkMany 9 = .ok (.bipush 11, 2) := by decide +kernel
theorem dX11_darkMany_11 : decode cX11_darkMany 11 = .ok (.iaload, 1) := by decide +kernel
theorem dX11_darkMany_12 : decode cX11_darkMany 12 = .ok (.if_icmp .gt 25, 3) := by decide +kernel
theorem dX11_darkMany_15 : decode cX11_darkMany 15 = .ok (.iload_n 1, 1) := by decide +kernel
theorem dX11_darkMany_16 : decode cX11_darkMany 16 = .ok (.aload_n 0, 1) := by decide +kernel
theorem dX11_darkMany_17 : decode cX11_darkMany 17 = .ok (.iload_n 2, 1) := by decide +kernel
theorem dX11_darkMany_18 : decode cX11_darkMany 18 = .ok (.invokevirtual 224, 3) := by decide +kernel
theorem dX11_darkMany_21 : decode cX11_darkMany 21 = .ok (.ifCond .eq 7, 3) := by decide +kernel
theorem dX11_darkMany_24 : decode cX11_darkMany 24 = .ok (.iconst 1, 1) := by decide +kernel
theorem dX11_darkMany_25 : decode cX11_darkMany 25 = .ok (.goto 4, 3) := by decide +kernel
theorem dX11_darkMany_28 : decode cX11_darkMany 28 = .ok (.iconst 0, 1) := by decide +kernel
theorem dX11_darkMany_29 : decode cX11_darkMany 29 = .ok (.iadd, 1) := by decide +kernel
theorem dX11_darkMany_30 : decode cX11_darkMany 30 = .ok (.istore_n 1, 1) := by decide +kernel
theorem dX11_darkMany_31 : decode cX11_darkMany 31 = .ok (.iinc 2 1, 3) := by decide +kernel
theorem dX11_darkMany_34 : decode cX11_darkMany 34 = .ok (.goto (-30), 3) := by decide +kernel
theorem dX11_darkMany_37 : decode cX11_darkMany 37 = .ok (.iload_n 1, 1) := by decide +kernel
theorem dX11_darkMany_38 : decode cX11_darkMany 38 = .ok (.ireturn, 1) := by decide +kernel
set_option maxRecDepth 20000 in
theorem ggX11_isSeen_X11_of : GoodIn wsX11_isSeen wsX11_of := goodIn_r _ [6, 1, 22, 23, 24, 25, 26, 27, 28, 29, 30, 31, 32, 33, 34, 35, 36, 37, 38, 39, 40, 41, 42, 43, 44, 45, 46, 47, 48, 49, 50, 51] (by decide +kernel) (by decide +kernel)
set_option maxRecDepth 20000 in
theorem gX11_isSeen_X11_of : GoodIn wsX11_isSeen (wsV RX11 74 RX11 yX11_of wsX11_of) := goodIn_app (goodIn_of _ (by decide +kernel)) ggX11_isSeen_X11_of
set_option maxRecDepth 20000 in
theorem ggX11_isSeen_X11_gapAt : GoodIn wsX11_isSeen wsX11_gapAt := goodIn_r _ [10, 1, 22, 23, 24, 25, 26, 27, 28, 29, 30, 31, 32, 33, 34, 35, 36, 37, 38, 39, 40, 41, 42, 43, 44, 45, 46, 47, 48, 49, 50, 51] (by decide +kernel) (by decide +kernel)
set_option maxRecDepth 20000 in
theorem gX11_isSeen_X11_gapAt : GoodIn wsX11_isSeen (wsV RX11 185 RX11 yX11_gapAt wsX11_gapAt) := goodIn_app (goodIn_of _ (by decide +kernel)) ggX11_isSeen_X11_gapAt
set_option maxRecDepth 20000 in
theorem ggX11_isSeen_X11_isBlind : GoodIn wsX11_isSeen wsX11_isBlind := goodIn_r _ [14, 1, 15, 16, 5, 17, 22, 23, 24, 25, 26, 27, 28, 29, 30, 31, 32, 33, 34, 35, 36, 37, 38, 39, 40, 41, 42, 43, 44, 45, 46, 47, 48, 49, 50, 51] (by decide +kernel) (by decide +kernel)
set_option maxRecDepth 20000 in
theorem gX11_isSeen_X11_isBlind : GoodIn wsX11_isSeen (wsV RX11 215 RX11 yX11_isBlind wsX11_isBlind) := goodIn_app (goodIn_of _ (by decide +kernel)) ggX11_isSeen_X11_isBlind
set_option maxRecDepth 20000 in
theorem ggX11_isSeen_X11_rangeOf : GoodIn wsX11_isSeen wsX11_rangeOf := goodIn_r _ [21, 2, 3, 4, 5, 6, 1, 22, 23, 24, 25, 26, 27, 28, 29, 30, 31, 32, 33, 34, 35, 36, 37, 38, 39, 40, 41, 42, 43, 44, 45, 46, 47, 48, 49, 50, 51] (by decide +kernel) (by decide +kernel)
set_option maxRecDepth 20000 in
theorem gX11_isSeen_X11_rangeOf : GoodIn wsX11_isSeen (wsV RX11 227 RX11 yX11_rangeOf wsX11_rangeOf) := goodIn_app (goodIn_of _ (by decide +kernel)) ggX11_isSeen_X11_rangeOf
theorem dX11_isSeen_0 : decode cX11_isSeen 0 = .ok (.aload_n 0, 1) := by decide +kernel
theorem dX11_isSeen_1 : decode cX11_isSeen 1 = .ok (.aload_n 0, 1) := by decide +kernel
theorem dX11_isSeen_2 : decode cX11_isSeen 2 = .ok (.iload_n 1, 1) := by decide +kernel
theorem dX11_isSeen_3 : decode cX11_isSeen 3 = .ok (.iconst 1, 1) := by decide +kernel
theorem dX11_isSeen_4 : decode cX11_isSeen 4 = .ok (.invokevirtual 74, 3) := by decide +kernel
theorem dX11_isSeen_7 : decode cX11_isSeen 7 = .ok (.aload_n 0, 1) := by decide +kernel
theorem dX11_isSeen_8 : decode cX11_isSeen 8 = .ok (.iload_n 2, 1) := by decide +kernel
theorem dX11_isSeen_9 : decode cX11_isSeen 9 = .ok (.invokevirtual 185, 3) := by decide +kernel
theorem dX11_isSeen_12 : decode cX11_isSeen 12 = .ok (.invokevirtual 215, 3) := by decide +kernel
theorem dX11_isSeen_15 : decode cX11_isSeen 15 = .ok (.ifCond .ne 28, 3) := by decide +kernel
theorem dX11_isSeen_18 : decode cX11_isSeen 18 = .ok (.aload_n 0, 1) := by decide +kernel
theorem dX11_isSeen_19 : decode cX11_isSeen 19 = .ok (.iload_n 1, 1) := by decide +kernel
theorem dX11_isSeen_20 : decode cX11_isSeen 20 = .ok (.invokevirtual 227, 3) := by decide +kernel
theorem dX11_isSeen_23 : decode cX11_isSeen 23 = .ok (.aload_n 0, 1) := by decide +kernel
theorem dX11_isSeen_24 : decode cX11_isSeen 24 = .ok (.iload_n 2, 1) := by decide +kernel
theorem dX11_isSeen_25 : decode cX11_isSeen 25 = .ok (.invokevirtual 185, 3) := by decide +kernel
theorem dX11_isSeen_28 : decode cX11_isSeen 28 = .ok (.irem, 1) := by decide +kernel
theorem dX11_isSeen_29 : decode cX11_isSeen 29 = .ok (.aload_n 0, 1) := by decide +kernel
theorem dX11_isSeen_30 : decode cX11_isSeen 30 = .ok (.getfield 7, 3) := by decide +kernel
theorem dX11_isSeen_33 : decode cX11_isSeen 33 = .ok (.bipush 8, 2) := by decide +kernel
theorem dX11_isSeen_35 : decode cX11_isSeen 35 = .ok (.iaload, 1) := by decide +kernel
theorem dX11_isSeen_36 : decode cX11_isSeen 36 = .ok (.if_icmp .lt 7, 3) := by decide +kernel
theorem dX11_isSeen_39 : decode cX11_isSeen 39 = .ok (.iconst 1, 1) := by decide +kernel
theorem dX11_isSeen_40 : decode cX11_isSeen 40 = .ok (.goto 4, 3) := by decide +kernel
theorem dX11_isSeen_43 : decode cX11_isSeen 43 = .ok (.iconst 0, 1) := by decide +kernel
theorem dX11_isSeen_44 : decode cX11_isSeen 44 = .ok (.ireturn, 1) := by decide +kernel
set_option maxRecDepth 20000 in
theorem ggX11_laysLoud_X11_rangeOf : GoodIn wsX11_laysLoud wsX11_rangeOf := goodIn_r _ [7, 8, 9, 10, 6, 11, 2, 27, 28, 29, 30, 31, 32, 33, 34, 35, 36, 37, 38, 39, 40, 41, 42, 43, 44, 45, 46, 47, 48, 49, 50, 51, 52, 53, 54, 55, 56] (by decide +kernel) (by decide +kernel)
set_option maxRecDepth 20000 in
theorem gX11_laysLoud_X11_rangeOf : GoodIn wsX11_laysLoud (wsV RX11 227 RX11 yX11_rangeOf wsX11_rangeOf) := goodIn_app (goodIn_of _ (by decide +kernel)) ggX11_laysLoud_X11_rangeOf
set_option maxRecDepth 20000 in
theorem ggX11_laysLoud_X11_gapAt : GoodIn wsX11_laysLoud wsX11_gapAt := goodIn_r _ [15, 2, 27, 28, 29, 30, 31, 32, 33, 34, 35, 36, 37, 38, 39, 40, 41, 42, 43, 44, 45, 46, 47, 48, 49, 50, 51, 52, 53, 54, 55, 56] (by decide +kernel) (by decide +kernel)
set_option maxRecDepth 20000 in
theorem gX11_laysLoud_X11_gapAt : GoodIn wsX11_laysLoud (wsV RX11 185 RX11 yX11_gapAt wsX11_gapAt) := goodIn_app (goodIn_of _ (by decide +kernel)) ggX11_laysLoud_X11_gapAt
set_option maxRecDepth 20000 in
theorem ggX11_laysLoud_X11_isSeen : GoodIn wsX11_laysLoud wsX11_isSeen := goodIn_r _ [19, 2, 8, 9, 10, 6, 11, 12, 13, 14, 15, 20, 21, 22, 23, 24, 25, 26, 3, 4, 5, 7, 27, 28, 29, 30, 31, 32, 33, 34, 35, 36, 37, 38, 39, 40, 41, 42, 43, 44, 45, 46, 47, 48, 49, 50, 51, 52, 53, 54, 55, 56] (by decide +kernel) (by decide +kernel)
set_option maxRecDepth 20000 in
theorem gX11_laysLoud_X11_isSeen : GoodIn wsX11_laysLoud (wsV RX11 230 RX11 yX11_isSeen wsX11_isSeen) := goodIn_app (goodIn_of _ (by decide +kernel)) ggX11_laysLoud_X11_isSeen
set_option maxRecDepth 20000 in
theorem ggX11_laysLoud_X11_of : GoodIn wsX11_laysLoud wsX11_of := goodIn_r _ [11, 2, 27, 28, 29, 30, 31, 32, 33, 34, 35, 36, 37, 38, 39, 40, 41, 42, 43, 44, 45, 46, 47, 48, 49, 50, 51, 52, 53, 54, 55, 56] (by decide +kernel) (by decide +kernel)
set_option maxRecDepth 20000 in
theorem gX11_laysLoud_X11_of : GoodIn wsX11_laysLoud (wsV RX11 74 RX11 yX11_of wsX11_of) := goodIn_app (goodIn_of _ (by decide +kernel)) ggX11_laysLoud_X11_of
theorem dX11_laysLoud_0 : decode cX11_laysLoud 0 = .ok (.iconst 0, 1) := by decide +kernel
theorem dX11_laysLoud_1 : decode cX11_laysLoud 1 = .ok (.istore_n 1, 1) := by decide +kernel
theorem dX11_laysLoud_2 : decode cX11_laysLoud 2 = .ok (.iload_n 1, 1) := by decide +kernel
theorem dX11_laysLoud_3 : decode cX11_laysLoud 3 = .ok (.sipush 300, 3) := by decide +kernel
theorem dX11_laysLoud_6 : decode cX11_laysLoud 6 = .ok (.if_icmp .ge 16, 3) := by decide +kernel
theorem dX11_laysLoud_9 : decode cX11_laysLoud 9 = .ok (.aload_n 0, 1) := by decide +kernel
theorem dX11_laysLoud_10 : decode cX11_laysLoud 10 = .ok (.getfield 27, 3) := by decide +kernel
theorem dX11_laysLoud_13 : decode cX11_laysLoud 13 = .ok (.iload_n 1, 1) := by decide +kernel
theorem dX11_laysLoud_14 : decode cX11_laysLoud 14 = .ok (.iconst 0, 1) := by decide +kernel
theorem dX11_laysLoud_15 : decode cX11_laysLoud 15 = .ok (.iastore, 1) := by decide +kernel
theorem dX11_laysLoud_16 : decode cX11_laysLoud 16 = .ok (.iinc 1 1, 3) := by decide +kernel
theorem dX11_laysLoud_19 : decode cX11_laysLoud 19 = .ok (.goto (-17), 3) := by decide +kernel
theorem dX11_laysLoud_22 : decode cX11_laysLoud 22 = .ok (.iconst 0, 1) := by decide +kernel
theorem dX11_laysLoud_23 : decode cX11_laysLoud 23 = .ok (.istore_n 1, 1) := by decide +kernel
theorem dX11_laysLoud_24 : decode cX11_laysLoud 24 = .ok (.iload_n 1, 1) := by decide +kernel
theorem dX11_laysLoud_25 : decode cX11_laysLoud 25 = .ok (.aload_n 0, 1) := by decide +kernel
theorem dX11_laysLoud_26 : decode cX11_laysLoud 26 = .ok (.getfield 7, 3) := by decide +kernel
theorem dX11_laysLoud_29 : decode cX11_laysLoud 29 = .ok (.iconst 0, 1) := by decide +kernel
theorem dX11_laysLoud_30 : decode cX11_laysLoud 30 = .ok (.iaload, 1) := by decide +kernel
theorem dX11_laysLoud_31 : decode cX11_laysLoud 31 = .ok (.if_icmp .ge 71, 3) := by decide +kernel
theorem dX11_laysLoud_34 : decode cX11_laysLoud 34 = .ok (.iconst 0, 1) := by decide +kernel
theorem dX11_laysLoud_35 : decode cX11_laysLoud 35 = .ok (.istore_n 2, 1) := by decide +kernel
theorem dX11_laysLoud_36 : decode cX11_laysLoud 36 = .ok (.iload_n 2, 1) := by decide +kernel
theorem dX11_laysLoud_37 : decode cX11_laysLoud 37 = .ok (.aload_n 0, 1) := by decide +kernel
theorem dX11_laysLoud_38 : decode cX11_laysLoud 38 = .ok (.getfield 7, 3) := by decide +kernel
theorem dX11_laysLoud_41 : decode cX11_laysLoud 41 = .ok (.bipush 13, 2) := by decide +kernel
theorem dX11_laysLoud_43 : decode cX11_laysLoud 43 = .ok (.iaload, 1) := by decide +kernel
theorem dX11_laysLoud_44 : decode cX11_laysLoud 44 = .ok (.if_icmp .ge 52, 3) := by decide +kernel
theorem dX11_laysLoud_47 : decode cX11_laysLoud 47 = .ok (.aload_n 0, 1) := by decide +kernel
theorem dX11_laysLoud_48 : decode cX11_laysLoud 48 = .ok (.getfield 27, 3) := by decide +kernel
theorem dX11_laysLoud_51 : decode cX11_laysLoud 51 = .ok (.bipush 60, 2) := by decide +kernel
theorem dX11_laysLoud_53 : decode cX11_laysLoud 53 = .ok (.iload_n 1, 1) := by decide +kernel
theorem dX11_laysLoud_54 : decode cX11_laysLoud 54 = .ok (.imul, 1) := by decide +kernel
theorem dX11_laysLoud_55 : decode cX11_laysLoud 55 = .ok (.aload_n 0, 1) := by decide +kernel
theorem dX11_laysLoud_56 : decode cX11_laysLoud 56 = .ok (.iload_n 2, 1) := by decide +kernel
theorem dX11_laysLoud_57 : decode cX11_laysLoud 57 = .ok (.invokevirtual 227, 3) := by decide +kernel
theorem dX11_laysLoud_60 : decode cX11_laysLoud 60 = .ok (.aload_n 0, 1) := by decide +kernel
theorem dX11_laysLoud_61 : decode cX11_laysLoud 61 = .ok (.iload_n 1, 1) := by decide +kernel
theorem dX11_laysLoud_62 : decode cX11_laysLoud 62 = .ok (.invokevirtual 185, 3) := by decide +kernel
theorem dX11_laysLoud_65 : decode cX11_laysLoud 65 = .ok (.irem, 1) := by decide +kernel
theorem dX11_laysLoud_66 : decode cX11_laysLoud 66 = .ok (.iadd, 1) := by decide +kernel
theorem dX11_laysLoud_67 : decode cX11_laysLoud 67 = .ok (.dup2, 1) := by decide +kernel
theorem dX11_laysLoud_68 : decode cX11_laysLoud 68 = .ok (.iaload, 1) := by decide +kernel
theorem dX11_laysLoud_69 : decode cX11_laysLoud 69 = .ok (.aload_n 0, 1) := by decide +kernel
theorem dX11_laysLoud_70 : decode cX11_laysLoud 70 = .ok (.iload_n 2, 1) := by decide +kernel
theorem dX11_laysLoud_71 : decode cX11_laysLoud 71 = .ok (.iload_n 1, 1) := by decide +kernel
theorem dX11_laysLoud_72 : decode cX11_laysLoud 72 = .ok (.invokevirtual 230, 3) := by decide +kernel
theorem dX11_laysLoud_75 : decode cX11_laysLoud 75 = .ok (.ifCond .eq 12, 3) := by decide +kernel
theorem dX11_laysLoud_78 : decode cX11_laysLoud 78 = .ok (.aload_n 0, 1) := by decide +kernel
theorem dX11_laysLoud_79 : decode cX11_laysLoud 79 = .ok (.iload_n 2, 1) := by decide +kernel
theorem dX11_laysLoud_80 : decode cX11_laysLoud 80 = .ok (.iconst 2, 1) := by decide +kernel
theorem dX11_laysLoud_81 : decode cX11_laysLoud 81 = .ok (.invokevirtual 74, 3) := by decide +kernel
theorem dX11_laysLoud_84 : decode cX11_laysLoud 84 = .ok (.goto 4, 3) := by decide +kernel
theorem dX11_laysLoud_87 : decode cX11_laysLoud 87 = .ok (.iconst 0, 1) := by decide +kernel
theorem dX11_laysLoud_88 : decode cX11_laysLoud 88 = .ok (.iadd, 1) := by decide +kernel
theorem dX11_laysLoud_89 : decode cX11_laysLoud 89 = .ok (.iastore, 1) := by decide +kernel
theorem dX11_laysLoud_90 : decode cX11_laysLoud 90 = .ok (.iinc 2 1, 3) := by decide +kernel
theorem dX11_laysLoud_93 : decode cX11_laysLoud 93 = .ok (.goto (-57), 3) := by decide +kernel
theorem dX11_laysLoud_96 : decode cX11_laysLoud 96 = .ok (.iinc 1 1, 3) := by decide +kernel
theorem dX11_laysLoud_99 : decode cX11_laysLoud 99 = .ok (.goto (-75), 3) := by decide +kernel
theorem dX11_laysLoud_102 : decode cX11_laysLoud 102 = .ok (.return_, 1) := by decide +kernel
theorem dX11_isEcho_0 : decode cX11_isEcho 0 = .ok (.aload_n 0, 1) := by decide +kernel
theorem dX11_isEcho_1 : decode cX11_isEcho 1 = .ok (.getfield 27, 3) := by decide +kernel
theorem dX11_isEcho_4 : decode cX11_isEcho 4 = .ok (.bipush 60, 2) := by decide +kernel
theorem dX11_isEcho_6 : decode cX11_isEcho 6 = .ok (.iload_n 1, 1) := by decide +kernel
theorem dX11_isEcho_7 : decode cX11_isEcho 7 = .ok (.imul, 1) := by decide +kernel
theorem dX11_isEcho_8 : decode cX11_isEcho 8 = .ok (.iload_n 2, 1) := by decide +kernel
theorem dX11_isEcho_9 : decode cX11_isEcho 9 = .ok (.iadd, 1) := by decide +kernel
theorem dX11_isEcho_10 : decode cX11_isEcho 10 = .ok (.iaload, 1) := by decide +kernel
theorem dX11_isEcho_11 : decode cX11_isEcho 11 = .ok (.aload_n 0, 1) := by decide +kernel
theorem dX11_isEcho_12 : decode cX11_isEcho 12 = .ok (.getfield 7, 3) := by decide +kernel
theorem dX11_isEcho_15 : decode cX11_isEcho 15 = .ok (.bipush 12, 2) := by decide +kernel
theorem dX11_isEcho_17 : decode cX11_isEcho 17 = .ok (.iaload, 1) := by decide +kernel
theorem dX11_isEcho_18 : decode cX11_isEcho 18 = .ok (.if_icmp .lt 7, 3) := by decide +kernel
theorem dX11_isEcho_21 : decode cX11_isEcho 21 = .ok (.iconst 1, 1) := by decide +kernel
theorem dX11_isEcho_22 : decode cX11_isEcho 22 = .ok (.goto 4, 3) := by decide +kernel
theorem dX11_isEcho_25 : decode cX11_isEcho 25 = .ok (.iconst 0, 1) := by decide +kernel
theorem dX11_isEcho_26 : decode cX11_isEcho 26 = .ok (.ireturn, 1) := by decide +kernel
set_option maxRecDepth 20000 in
theorem ggX11_echoesOf_X11_gapAt : GoodIn wsX11_echoesOf wsX11_gapAt := goodIn_r _ [5, 6, 12, 13, 14, 15, 16, 17, 18, 19, 20, 21, 22, 23, 24, 25, 26, 27, 28, 29, 30, 31, 32, 33, 34, 35, 36, 37, 38, 39, 40, 41] (by decide +kernel) (by decide +kernel)
set_option maxRecDepth 20000 in
theorem gX11_echoesOf_X11_gapAt : GoodIn wsX11_echoesOf (wsV RX11 185 RX11 yX11_gapAt wsX11_gapAt) := goodIn_app (goodIn_of _ (by decide +kernel)) ggX11_echoesOf_X11_gapAt
set_option maxRecDepth 20000 in
theorem ggX11_echoesOf_X11_isEcho : GoodIn wsX11_echoesOf wsX11_isEcho := goodIn_r _ [10, 11, 6, 12, 13, 14, 15, 16, 17, 18, 19, 20, 21, 22, 23, 24, 25, 26, 27, 28, 29, 30, 31, 32, 33, 34, 35, 36, 37, 38, 39, 40, 41] (by decide +kernel) (by decide +kernel)
set_option maxRecDepth 20000 in
theorem gX11_echoesOf_X11_isEcho : GoodIn wsX11_echoesOf (wsV RX11 233 RX11 yX11_isEcho wsX11_isEcho) := goodIn_app (goodIn_of _ (by decide +kernel)) ggX11_echoesOf_X11_isEcho
theorem dX11_echoesOf_0 : decode cX11_echoesOf 0 = .ok (.iconst 0, 1) := by decide +kernel
theorem dX11_echoesOf_1 : decode cX11_echoesOf 1 = .ok (.istore_n 2, 1) := by decide +kernel
theorem dX11_echoesOf_2 : decode cX11_echoesOf 2 = .ok (.iconst 0, 1) := by decide +kernel
theorem dX11_echoesOf_3 : decode cX11_echoesOf 3 = .ok (.istore_n 3, 1) := by decide +kernel
theorem dX11_echoesOf_4 : decode cX11_echoesOf 4 = .ok (.iload_n 3, 1) := by decide +kernel
theorem dX11_echoesOf_5 : decode cX11_echoesOf 5 = .ok (.aload_n 0, 1) := by decide +kernel
theorem dX11_echoesOf_6 : decode cX11_echoesOf 6 = .ok (.iload_n 1, 1) := by decide +kernel
theorem dX11_echoesOf_7 : decode cX11_echoesOf 7 = .ok (.invokevirtual 185, 3) := by decide +kernel
theorem dX11_echoesOf_10 : decode cX11_echoesOf 10 = .ok (.if_icmp .ge 26, 3) := by decide +kernel
theorem dX11_echoesOf_13 : decode cX11_echoesOf 13 = .ok (.iload_n 2, 1) := by decide +kernel
theorem dX11_echoesOf_14 : decode cX11_echoesOf 14 = .ok (.aload_n 0, 1) := by decide +kernel
theorem dX11_echoesOf_15 : decode cX11_echoesOf 15 = .ok (.iload_n 1, 1) := by decide +kernel
theorem dX11_echoesOf_16 : decode cX11_echoesOf 16 = .ok (.iload_n 3, 1) := by decide +kernel
theorem dX11_echoesOf_17 : decode cX11_echoesOf 17 = .ok (.invokevirtual 233, 3) := by decide +kernel
theorem dX11_echoesOf_20 : decode cX11_echoesOf 20 = .ok (.ifCond .eq 7, 3) := by decide +kernel
theorem dX11_echoesOf_23 : decode cX11_echoesOf 23 = .ok (.iconst 1, 1) := by decide +kernel
theorem dX11_echoesOf_24 : decode cX11_echoesOf 24 = .ok (.goto 4, 3) := by decide +kernel
theorem dX11_echoesOf_27 : decode cX11_echoesOf 27 = .ok (.iconst 0, 1) := by decide +kernel
theorem dX11_echoesOf_28 : decode cX11_echoesOf 28 = .ok (.iadd, 1) := by decide +kernel
theorem dX11_echoesOf_29 : decode cX11_echoesOf 29 = .ok (.istore_n 2, 1) := by decide +kernel
theorem dX11_echoesOf_30 : decode cX11_echoesOf 30 = .ok (.iinc 3 1, 3) := by decide +kernel
theorem dX11_echoesOf_33 : decode cX11_echoesOf 33 = .ok (.goto (-29), 3) := by decide +kernel
theorem dX11_echoesOf_36 : decode cX11_echoesOf 36 = .ok (.iload_n 2, 1) := by decide +kernel
theorem dX11_echoesOf_37 : decode cX11_echoesOf 37 = .ok (.ireturn, 1) := by decide +kernel
set_option maxRecDepth 20000 in
theorem ggX11_hitBits_X11_gapAt : GoodIn wsX11_hitBits wsX11_gapAt := goodIn_r _ [6, 1, 12, 13, 14, 15, 16, 17, 18, 19, 20, 21, 22, 23, 24, 25, 26, 27, 28, 29, 30, 31, 32, 33, 34, 35, 36, 37, 38, 39, 40, 41] (by decide +kernel) (by decide +kernel)
set_option maxRecDepth 20000 in
theorem gX11_hitBits_X11_gapAt : GoodIn wsX11_hitBits (wsV RX11 185 RX11 yX11_gapAt wsX11_gapAt) := goodIn_app (goodIn_of _ (by decide +kernel)) ggX11_hitBits_X11_gapAt
set_option maxRecDepth 20000 in
theorem ggX11_hitBits_X11_isEcho : GoodIn wsX11_hitBits wsX11_isEcho := goodIn_r _ [10, 11, 1, 12, 13, 14, 15, 16, 17, 18, 19, 20, 21, 22, 23, 24, 25, 26, 27, 28, 29, 30, 31, 32, 33, 34, 35, 36, 37, 38, 39, 40, 41] (by decide +kernel) (by decide +kernel)
set_option maxRecDepth 20000 in
theorem gX11_hitBits_X11_isEcho : GoodIn wsX11_hitBits (wsV RX11 233 RX11 yX11_isEcho wsX11_isEcho) := goodIn_app (goodIn_of _ (by decide +kernel)) ggX11_hitBits_X11_isEcho
theorem dX11_hitBits_0 : decode cX11_hitBits 0 = .ok (.iconst 0, 1) := by decide +kernel
theorem dX11_hitBits_1 : decode cX11_hitBits 1 = .ok (.istore_n 2, 1) := by decide +kernel
theorem dX11_hitBits_2 : decode cX11_hitBits 2 = .ok (.iconst 0, 1) := by decide +kernel
theorem dX11_hitBits_3 : decode cX11_hitBits 3 = .ok (.istore_n 3, 1) := by decide +kernel
theorem dX11_hitBits_4 : decode cX11_hitBits 4 = .ok (.iload_n 3, 1) := by decide +kernel
theorem dX11_hitBits_5 : decode cX11_hitBits 5 = .ok (.aload_n 0, 1) := by decide +kernel
theorem dX11_hitBits_6 : decode cX11_hitBits 6 = .ok (.getfield 7, 3) := by decide +kernel
theorem dX11_hitBits_9 : decode cX11_hitBits 9 = .ok (.iconst 0, 1) := by decide +kernel
theorem dX11_hitBits_10 : decode cX11_hitBits 10 = .ok (.iaload, 1) := by decide +kernel
theorem dX11_hitBits_11 : decode cX11_hitBits 11 = .ok (.if_icmp .ge 34, 3) := by decide +kernel
theorem dX11_hitBits_14 : decode cX11_hitBits 14 = .ok (.iload_n 2, 1) := by decide +kernel
theorem dX11_hitBits_15 : decode cX11_hitBits 15 = .ok (.aload_n 0, 1) := by decide +kernel
theorem dX11_hitBits_16 : decode cX11_hitBits 16 = .ok (.iload_n 3, 1) := by decide +kernel
theorem dX11_hitBits_17 : decode cX11_hitBits 17 = .ok (.iload_n 1, 1) := by decide +kernel
theorem dX11_hitBits_18 : decode cX11_hitBits 18 = .ok (.aload_n 0, 1) := by decide +kernel
theorem dX11_hitBits_19 : decode cX11_hitBits 19 = .ok (.iload_n 3, 1) := by decide +kernel
theorem dX11_hitBits_20 : decode cX11_hitBits 20 = .ok (.invokevirtual 185, 3) := by decide +kernel
theorem dX11_hitBits_23 : decode cX11_hitBits 23 = .ok (.irem, 1) := by decide +kernel
theorem dX11_hitBits_24 : decode cX11_hitBits 24 = .ok (.invokevirtual 233, 3) := by decide +kernel
theorem dX11_hitBits_27 : decode cX11_hitBits 27 = .ok (.ifCond .eq 9, 3) := by decide +kernel
theorem dX11_hitBits_30 : decode cX11_hitBits 30 = .ok (.iconst 1, 1) := by decide +kernel
theorem dX11_hitBits_31 : decode cX11_hitBits 31 = .ok (.iload_n 3, 1) := by decide +kernel
theorem dX11_hitBits_32 : decode cX11_hitBits 32 = .ok (.ishl, 1) := by decide +kernel
theorem dX11_hitBits_33 : decode cX11_hitBits 33 = .ok (.goto 4, 3) := by decide +kernel
theorem dX11_hitBits_36 : decode cX11_hitBits 36 = .ok (.iconst 0, 1) := by decide +kernel
theorem dX11_hitBits_37 : decode cX11_hitBits 37 = .ok (.ior, 1) := by decide +kernel
theorem dX11_hitBits_38 : decode cX11_hitBits 38 = .ok (.istore_n 2, 1) := by decide +kernel
theorem dX11_hitBits_39 : decode cX11_hitBits 39 = .ok (.iinc 3 1, 3) := by decide +kernel
theorem dX11_hitBits_42 : decode cX11_hitBits 42 = .ok (.goto (-38), 3) := by decide +kernel
theorem dX11_hitBits_45 : decode cX11_hitBits 45 = .ok (.iload_n 2, 1) := by decide +kernel
theorem dX11_hitBits_46 : decode cX11_hitBits 46 = .ok (.ireturn, 1) := by decide +kernel
set_option maxRecDepth 20000 in
theorem ggX11_isFound_X11_hitBits : GoodIn wsX11_isFound wsX11_hitBits := goodIn_r _ [6, 1, 7, 8, 9, 5, 10, 11, 12, 13, 14, 15, 19, 20, 21, 22, 23, 24, 25, 26, 27, 28, 29, 30, 31, 32, 33, 34, 35, 36, 37, 38, 39, 40, 41, 42, 43, 44, 45, 46, 47, 48] (by decide +kernel) (by decide +kernel)
set_option maxRecDepth 20000 in
theorem gX11_isFound_X11_hitBits : GoodIn wsX11_isFound (wsV RX11 236 RX11 yX11_hitBits wsX11_hitBits) := goodIn_app (goodIn_of _ (by decide +kernel)) ggX11_isFound_X11_hitBits
set_option maxRecDepth 20000 in
theorem ggX11_isFound_X11_ones : GoodIn wsX11_isFound wsX11_ones := goodIn_r _ [18] (by decide +kernel) (by decide +kernel)
set_option maxRecDepth 20000 in
theorem gX11_isFound_X11_ones : GoodIn wsX11_isFound (va_wsS RX11 221 yX11_ones wsX11_ones) := goodIn_app (goodIn_of _ (by decide +kernel)) ggX11_isFound_X11_ones
theorem dX11_isFound_0 : decode cX11_isFound 0 = .ok (.iload_n 1, 1) := by decide +kernel
theorem dX11_isFound_1 : decode cX11_isFound 1 = .ok (.aload_n 0, 1) := by decide +kernel
theorem dX11_isFound_2 : decode cX11_isFound 2 = .ok (.getfield 7, 3) := by decide +kernel
theorem dX11_isFound_5 : decode cX11_isFound 5 = .ok (.bipush 9, 2) := by decide +kernel
theorem dX11_isFound_7 : decode cX11_isFound 7 = .ok (.iaload, 1) := by decide +kernel
theorem dX11_isFound_8 : decode cX11_isFound 8 = .ok (.if_icmp .ge 25, 3) := by decide +kernel
theorem dX11_isFound_11 : decode cX11_isFound 11 = .ok (.aload_n 0, 1) := by decide +kernel
theorem dX11_isFound_12 : decode cX11_isFound 12 = .ok (.iload_n 1, 1) := by decide +kernel
theorem dX11_isFound_13 : decode cX11_isFound 13 = .ok (.invokevirtual 236, 3) := by decide +kernel
theorem dX11_isFound_16 : decode cX11_isFound 16 = .ok (.invokestatic 221, 3) := by decide +kernel
theorem dX11_isFound_19 : decode cX11_isFound 19 = .ok (.aload_n 0, 1) := by decide +kernel
theorem dX11_isFound_20 : decode cX11_isFound 20 = .ok (.getfield 7, 3) := by decide +kernel
theorem dX11_isFound_23 : decode cX11_isFound 23 = .ok (.bipush 10, 2) := by decide +kernel
theorem dX11_isFound_25 : decode cX11_isFound 25 = .ok (.iaload, 1) := by decide +kernel
theorem dX11_isFound_26 : decode cX11_isFound 26 = .ok (.if_icmp .lt 7, 3) := by decide +kernel
theorem dX11_isFound_29 : decode cX11_isFound 29 = .ok (.iconst 1, 1) := by decide +kernel
theorem dX11_isFound_30 : decode cX11_isFound 30 = .ok (.goto 4, 3) := by decide +kernel
theorem dX11_isFound_33 : decode cX11_isFound 33 = .ok (.iconst 0, 1) := by decide +kernel
theorem dX11_isFound_34 : decode cX11_isFound 34 = .ok (.ireturn, 1) := by decide +kernel
set_option maxRecDepth 20000 in
theorem ggX11_isRange_X11_rangeOf : GoodIn wsX11_isRange wsX11_rangeOf := goodIn_r _ [6, 7, 8, 9, 5, 10, 1, 11, 12, 13, 14, 15, 16, 17, 18, 19, 20, 21, 22, 23, 24, 25, 26, 27, 28, 29, 30, 31, 32, 33, 34, 35, 36, 37, 38, 39, 40] (by decide +kernel) (by decide +kernel)
set_option maxRecDepth 20000 in
theorem gX11_isRange_X11_rangeOf : GoodIn wsX11_isRange (wsV RX11 227 RX11 yX11_rangeOf wsX11_rangeOf) := goodIn_app (goodIn_of _ (by decide +kernel)) ggX11_isRange_X11_rangeOf
theorem dX11_isRange_0 : decode cX11_isRange 0 = .ok (.iconst 0, 1) := by decide +kernel
theorem dX11_isRange_1 : decode cX11_isRange 1 = .ok (.istore_n 2, 1) := by decide +kernel
theorem dX11_isRange_2 : decode cX11_isRange 2 = .ok (.iload_n 2, 1) := by decide +kernel
theorem dX11_isRange_3 : decode cX11_isRange 3 = .ok (.aload_n 0, 1) := by decide +kernel
theorem dX11_isRange_4 : decode cX11_isRange 4 = .ok (.getfield 7, 3) := by decide +kernel
theorem dX11_isRange_7 : decode cX11_isRange 7 = .ok (.bipush 13, 2) := by decide +kernel
theorem dX11_isRange_9 : decode cX11_isRange 9 = .ok (.iaload, 1) := by decide +kernel
theorem dX11_isRange_10 : decode cX11_isRange 10 = .ok (.if_icmp .ge 20, 3) := by decide +kernel
theorem dX11_isRange_13 : decode cX11_isRange 13 = .ok (.aload_n 0, 1) := by decide +kernel
theorem dX11_isRange_14 : decode cX11_isRange 14 = .ok (.iload_n 2, 1) := by decide +kernel
theorem dX11_isRange_15 : decode cX11_isRange 15 = .ok (.invokevirtual 227, 3) := by decide +kernel
theorem dX11_isRange_18 : decode cX11_isRange 18 = .ok (.iload_n 1, 1) := by decide +kernel
theorem dX11_isRange_19 : decode cX11_isRange 19 = .ok (.if_icmp .ne 5, 3) := by decide +kernel
theorem dX11_isRange_22 : decode cX11_isRange 22 = .ok (.iconst 1, 1) := by decide +kernel
theorem dX11_isRange_23 : decode cX11_isRange 23 = .ok (.ireturn, 1) := by decide +kernel
theorem dX11_isRange_24 : decode cX11_isRange 24 = .ok (.iinc 2 1, 3) := by decide +kernel
theorem dX11_isRange_27 : decode cX11_isRange 27 = .ok (.goto (-25), 3) := by decide +kernel
theorem dX11_isRange_30 : decode cX11_isRange 30 = .ok (.iconst 0, 1) := by decide +kernel
theorem dX11_isRange_31 : decode cX11_isRange 31 = .ok (.ireturn, 1) := by decide +kernel
set_option maxRecDepth 20000 in
theorem ggX11_foundMany_X11_isFound : GoodIn wsX11_foundMany wsX11_isFound := goodIn_r _ [6, 1, 7, 8, 9, 5, 10, 11, 12, 13, 14, 15, 16, 17, 18, 19, 20, 21, 22, 35, 36, 37, 38, 39, 40, 41, 42, 43, 44, 45, 46, 47, 48, 49, 50, 51, 52, 53, 54, 55, 56, 57, 58, 59, 60, 61, 62, 63, 64] (by decide +kernel) (by decide +kernel)
set_option maxRecDepth 20000 in
theorem gX11_foundMany_X11_isFound : GoodIn wsX11_foundMany (wsV RX11 239 RX11 yX11_isFound wsX11_isFound) := goodIn_app (goodIn_of _ (by decide +kernel)) ggX11_foundMany_X11_isFound
set_option maxRecDepth 20000 in
theorem ggX11_foundMany_X11_isRange : GoodIn wsX11_foundMany wsX11_isRange := goodIn_r _ [26, 1, 27, 28, 29, 5, 30, 31, 32, 33, 34, 35, 36, 37, 38, 39, 40, 41, 42, 43, 44, 45, 46, 47, 48, 49, 50, 51, 52, 53, 54, 55, 56, 57, 58, 59, 60, 61, 62, 63, 64] (by decide +kernel) (by decide +kernel)
set_option maxRecDepth 20000 in
theorem gX11_foundMany_X11_isRange : GoodIn wsX11_foundMany (wsV RX11 242 RX11 yX11_isRange wsX11_isRange) := goodIn_app (goodIn_of _ (by decide +kernel)) ggX11_foundMany_X11_isRange
theorem dX11_foundMany_0 : decode cX11_foundMany 0 = .ok (.iconst 0, 1) := by decide +kernel
theorem dX11_foundMany_1 : decode cX11_foundMany 1 = .ok (.istore_n 2, 1) := by decide +kernel
theorem dX11_foundMany_2 : decode cX11_foundMany 2 = .ok (.iconst 0, 1) := by decide +kernel
theorem dX11_foundMany_3 : decode cX11_foundMany 3 = .ok (.istore_n 3, 1) := by decide +kernel
theorem dX11_foundMany_4 : decode cX11_foundMany 4 = .ok (.iload_n 3, 1) := by decide +kernel
theorem dX11_foundMany_5 : decode cX11_foundMany 5 = .ok (.aload_n 0, 1) := by decide +kernel
theorem dX11_foundMany_6 : decode cX11_foundMany 6 = .ok (.getfield 7, 3) := by decide +kernel
theorem dX11_foundMany_9 : decode cX11_foundMany 9 = .ok (.bipush 9, 2) := by decide +kernel
theorem dX11_foundMany_11 : decode cX11_foundMany 11 = .ok (.iaload, 1) := by decide +kernel
theorem dX11_foundMany_12 : decode cX11_foundMany 12 = .ok (.if_icmp .ge 37, 3) := by decide +kernel
theorem dX11_foundMany_15 : decode cX11_foundMany 15 = .ok (.iload_n 2, 1) := by decide +kernel
theorem dX11_foundMany_16 : decode cX11_foundMany 16 = .ok (.aload_n 0, 1) := by decide +kernel
theorem dX11_foundMany_17 : decode cX11_foundMany 17 = .ok (.iload_n 3, 1) := by decide +kernel
theorem dX11_foundMany_18 : decode cX11_foundMany 18 = .ok (.invokevirtual 239, 3) := by decide +kernel
theorem dX11_foundMany_21 : decode cX11_foundMany 21 = .ok (.ifCond .eq 19, 3) := by decide +kernel
theorem dX11_foundMany_24 : decode cX11_foundMany 24 = .ok (.iload_n 1, 1) := by decide +kernel
theorem dX11_foundMany_25 : decode cX11_foundMany 25 = .ok (.ifCond .eq 11, 3) := by decide +kernel
theorem dX11_foundMany_28 : decode cX11_foundMany 28 = .ok (.aload_n 0, 1) := by decide +kernel
theorem dX11_foundMany_29 : decode cX11_foundMany 29 = .ok (.iload_n 3, 1) := by decide +kernel
theorem dX11_foundMany_30 : decode cX11_foundMany 30 = .ok (.invokevirtual 242, 3) := by decide +kernel
theorem dX11_foundMany_33 : decode cX11_foundMany 33 = .ok (.ifCond .ne 7, 3) := by decide +kernel
theorem dX11_foundMany_36 : decode cX11_foundMany 36 = .ok (.iconst 1, 1) := by decide +kernel
theorem dX11_foundMany_37 : decode cX11_foundMany 37 = .ok (.goto 4, 3) := by decide +kernel
theorem dX11_foundMany_40 : decode cX11_foundMany 40 = .ok (.iconst 0, 1) := by decide +kernel
theorem dX11_foundMany_41 : decode cX11_foundMany 41 = .ok (.iadd, 1) := by decide +kernel
theorem dX11_foundMany_42 : decode cX11_foundMany 42 = .ok (.istore_n 2, 1) := by decide +kernel
theorem dX11_foundMany_43 : decode cX11_foundMany 43 = .ok (.iinc 3 1, 3) := by decide +kernel
theorem dX11_foundMany_46 : decode cX11_foundMany 46 = .ok (.goto (-42), 3) := by decide +kernel
theorem dX11_foundMany_49 : decode cX11_foundMany 49 = .ok (.iload_n 2, 1) := by decide +kernel
theorem dX11_foundMany_50 : decode cX11_foundMany 50 = .ok (.ireturn, 1) := by decide +kernel
set_option maxRecDepth 20000 in
theorem ggX11_missedBits_X11_rangeOf : GoodIn wsX11_missedBits wsX11_rangeOf := goodIn_r _ [6, 7, 8, 9, 5, 10, 1, 31, 32, 33, 34, 35, 36, 37, 38, 39, 40, 41, 42, 43, 44, 45, 46, 47, 48, 49, 50, 51, 52, 53, 54, 55, 56, 57, 58, 59, 60] (by decide +kernel) (by decide +kernel)
set_option maxRecDepth 20000 in
theorem gX11_missedBits_X11_rangeOf : GoodIn wsX11_missedBits (wsV RX11 227 RX11 yX11_rangeOf wsX11_rangeOf) := goodIn_app (goodIn_of _ (by decide +kernel)) ggX11_missedBits_X11_rangeOf
set_option maxRecDepth 20000 in
theorem ggX11_missedBits_X11_isFound : GoodIn wsX11_missedBits wsX11_isFound := goodIn_r _ [14, 1, 15, 16, 17, 5, 18, 19, 20, 21, 22, 23, 24, 25, 26, 27, 28, 29, 30, 31, 32, 33, 34, 35, 36, 37, 38, 39, 40, 41, 42, 43, 44, 45, 46, 47, 48, 49, 50, 51, 52, 53, 54, 55, 56, 57, 58, 59, 60] (by decide +kernel) (by decide +kernel)
set_option maxRecDepth 20000 in
theorem gX11_missedBits_X11_isFound : GoodIn wsX11_missedBits (wsV RX11 239 RX11 yX11_isFound wsX11_isFound) := goodIn_app (goodIn_of _ (by decide +kernel)) ggX11_missedBits_X11_isFound
theorem dX11_missedBits_0 : decode cX11_missedBits 0 = .ok (.iconst 0, 1) := by decide +kernel
theorem dX11_missedBits_1 : decode cX11_missedBits 1 = .ok (.istore_n 1, 1) := by decide +kernel
theorem dX11_missedBits_2 : decode cX11_missedBits 2 = .ok (.iconst 0, 1) := by decide +kernel
theorem dX11_missedBits_3 : decode cX11_missedBits 3 = .ok (.istore_n 2, 1) := by decide +kernel
theorem dX11_missedBits_4 : decode cX11_missedBits 4 = .ok (.iload_n 2, 1) := by decide +kernel
theorem dX11_missedBits_5 : decode cX11_missedBits 5 = .ok (.aload_n 0, 1) := by decide +kernel
theorem dX11_missedBits_6 : decode cX11_missedBits 6 = .ok (.getfield 7, 3) := by decide +kernel
theorem dX11_missedBits_9 : decode cX11_missedBits 9 = .ok (.bipush 13, 2) := by decide +kernel
theorem dX11_missedBits_11 : decode cX11_missedBits 11 = .ok (.iaload, 1) := by decide +kernel
theorem dX11_missedBits_12 : decode cX11_missedBits 12 = .ok (.if_icmp .ge 46, 3) := by decide +kernel
theorem dX11_missedBits_15 : decode cX11_missedBits 15 = .ok (.iload_n 1, 1) := by decide +kernel
theorem dX11_missedBits_16 : decode cX11_missedBits 16 = .ok (.aload_n 0, 1) := by decide +kernel
theorem dX11_missedBits_17 : decode cX11_missedBits 17 = .ok (.iload_n 2, 1) := by decide +kernel
theorem dX11_missedBits_18 : decode cX11_missedBits 18 = .ok (.invokevirtual 227, 3) := by decide +kernel
theorem dX11_missedBits_21 : decode cX11_missedBits 21 = .ok (.aload_n 0, 1) := by decide +kernel
theorem dX11_missedBits_22 : decode cX11_missedBits 22 = .ok (.getfield 7, 3) := by decide +kernel
theorem dX11_missedBits_25 : decode cX11_missedBits 25 = .ok (.bipush 9, 2) := by decide +kernel
theorem dX11_missedBits_27 : decode cX11_missedBits 27 = .ok (.iaload, 1) := by decide +kernel
theorem dX11_missedBits_28 : decode cX11_missedBits 28 = .ok (.if_icmp .ge 21, 3) := by decide +kernel
theorem dX11_missedBits_31 : decode cX11_missedBits 31 = .ok (.aload_n 0, 1) := by decide +kernel
theorem dX11_missedBits_32 : decode cX11_missedBits 32 = .ok (.aload_n 0, 1) := by decide +kernel
theorem dX11_missedBits_33 : decode cX11_missedBits 33 = .ok (.iload_n 2, 1) := by decide +kernel
theorem dX11_missedBits_34 : decode cX11_missedBits 34 = .ok (.invokevirtual 227, 3) := by decide +kernel
theorem dX11_missedBits_37 : decode cX11_missedBits 37 = .ok (.invokevirtual 239, 3) := by decide +kernel
theorem dX11_missedBits_40 : decode cX11_missedBits 40 = .ok (.ifCond .ne 9, 3) := by decide +kernel
theorem dX11_missedBits_43 : decode cX11_missedBits 43 = .ok (.iconst 1, 1) := by decide +kernel
theorem dX11_missedBits_44 : decode cX11_missedBits 44 = .ok (.iload_n 2, 1) := by decide +kernel
theorem dX11_missedBits_45 : decode cX11_missedBits 45 = .ok (.ishl, 1) := by decide +kernel
theorem dX11_missedBits_46 : decode cX11_missedBits 46 = .ok (.goto 4, 3) := by decide +kernel
theorem dX11_missedBits_49 : decode cX11_missedBits 49 = .ok (.iconst 0, 1) := by decide +kernel
theorem dX11_missedBits_50 : decode cX11_missedBits 50 = .ok (.ior, 1) := by decide +kernel
theorem dX11_missedBits_51 : decode cX11_missedBits 51 = .ok (.istore_n 1, 1) := by decide +kernel
theorem dX11_missedBits_52 : decode cX11_missedBits 52 = .ok (.iinc 2 1, 3) := by decide +kernel
theorem dX11_missedBits_55 : decode cX11_missedBits 55 = .ok (.goto (-51), 3) := by decide +kernel
theorem dX11_missedBits_58 : decode cX11_missedBits 58 = .ok (.iload_n 1, 1) := by decide +kernel
theorem dX11_missedBits_59 : decode cX11_missedBits 59 = .ok (.ireturn, 1) := by decide +kernel
set_option maxRecDepth 20000 in
theorem ggX11_freeHits_X11_gapAt : GoodIn wsX11_freeHits wsX11_gapAt := goodIn_r _ [7, 1, 8, 9, 10, 11, 12, 13, 14, 15, 16, 17, 18, 19, 20, 21, 22, 23, 24, 25, 26, 27, 28, 29, 30, 31, 32, 33, 34, 35, 36, 37] (by decide +kernel) (by decide +kernel)
set_option maxRecDepth 20000 in
theorem gX11_freeHits_X11_gapAt : GoodIn wsX11_freeHits (wsV RX11 185 RX11 yX11_gapAt wsX11_gapAt) := goodIn_app (goodIn_of _ (by decide +kernel)) ggX11_freeHits_X11_gapAt
theorem dX11_freeHits_0 : decode cX11_freeHits 0 = .ok (.iconst 0, 1) := by decide +kernel
theorem dX11_freeHits_1 : decode cX11_freeHits 1 = .ok (.istore_n 2, 1) := by decide +kernel
theorem dX11_freeHits_2 : decode cX11_freeHits 2 = .ok (.iconst 0, 1) := by decide +kernel
theorem dX11_freeHits_3 : decode cX11_freeHits 3 = .ok (.istore_n 3, 1) := by decide +kernel
theorem dX11_freeHits_4 : decode cX11_freeHits 4 = .ok (.iload_n 3, 1) := by decide +kernel
theorem dX11_freeHits_5 : decode cX11_freeHits 5 = .ok (.aload_n 0, 1) := by decide +kernel
theorem dX11_freeHits_6 : decode cX11_freeHits 6 = .ok (.getfield 7, 3) := by decide +kernel
theorem dX11_freeHits_9 : decode cX11_freeHits 9 = .ok (.iconst 0, 1) := by decide +kernel
theorem dX11_freeHits_10 : decode cX11_freeHits 10 = .ok (.iaload, 1) := by decide +kernel
theorem dX11_freeHits_11 : decode cX11_freeHits 11 = .ok (.if_icmp .ge 37, 3) := by decide +kernel
theorem dX11_freeHits_14 : decode cX11_freeHits 14 = .ok (.iload_n 2, 1) := by decide +kernel
theorem dX11_freeHits_15 : decode cX11_freeHits 15 = .ok (.aload_n 0, 1) := by decide +kernel
theorem dX11_freeHits_16 : decode cX11_freeHits 16 = .ok (.getfield 36, 3) := by decide +kernel
theorem dX11_freeHits_19 : decode cX11_freeHits 19 = .ok (.bipush 60, 2) := by decide +kernel
theorem dX11_freeHits_21 : decode cX11_freeHits 21 = .ok (.iload_n 3, 1) := by decide +kernel
theorem dX11_freeHits_22 : decode cX11_freeHits 22 = .ok (.imul, 1) := by decide +kernel
theorem dX11_freeHits_23 : decode cX11_freeHits 23 = .ok (.iload_n 1, 1) := by decide +kernel
theorem dX11_freeHits_24 : decode cX11_freeHits 24 = .ok (.aload_n 0, 1) := by decide +kernel
theorem dX11_freeHits_25 : decode cX11_freeHits 25 = .ok (.iload_n 3, 1) := by decide +kernel
theorem dX11_freeHits_26 : decode cX11_freeHits 26 = .ok (.invokevirtual 185, 3) := by decide +kernel
theorem dX11_freeHits_29 : decode cX11_freeHits 29 = .ok (.irem, 1) := by decide +kernel
theorem dX11_freeHits_30 : decode cX11_freeHits 30 = .ok (.iadd, 1) := by decide +kernel
theorem dX11_freeHits_31 : decode cX11_freeHits 31 = .ok (.baload, 1) := by decide +kernel
theorem dX11_freeHits_32 : decode cX11_freeHits 32 = .ok (.ifCond .eq 7, 3) := by decide +kernel
theorem dX11_freeHits_35 : decode cX11_freeHits 35 = .ok (.iconst 1, 1) := by decide +kernel
theorem dX11_freeHits_36 : decode cX11_freeHits 36 = .ok (.goto 4, 3) := by decide +kernel
theorem dX11_freeHits_39 : decode cX11_freeHits 39 = .ok (.iconst 0, 1) := by decide +kernel
theorem dX11_freeHits_40 : decode cX11_freeHits 40 = .ok (.iadd, 1) := by decide +kernel
theorem dX11_freeHits_41 : decode cX11_freeHits 41 = .ok (.istore_n 2, 1) := by decide +kernel
theorem dX11_freeHits_42 : decode cX11_freeHits 42 = .ok (.iinc 3 1, 3) := by decide +kernel
theorem dX11_freeHits_45 : decode cX11_freeHits 45 = .ok (.goto (-41), 3) := by decide +kernel
theorem dX11_freeHits_48 : decode cX11_freeHits 48 = .ok (.iload_n 2, 1) := by decide +kernel
theorem dX11_freeHits_49 : decode cX11_freeHits 49 = .ok (.ireturn, 1) := by decide +kernel
set_option maxRecDepth 20000 in
theorem ggX11_laysPicture_X11_laysLoud : GoodIn wsX11_laysPicture wsX11_laysLoud := goodIn_r _ [11, 2, 3, 12, 13, 14, 10, 15, 16, 17, 18, 19, 20, 21, 22, 23, 24, 25, 26, 27, 28, 29, 30, 31, 32, 33, 34, 39, 40, 41, 42, 43, 44, 45, 46, 47, 48, 49, 50, 51, 52, 53, 54, 55, 56, 57, 58, 59, 60, 61, 62, 63, 64, 65, 66, 67, 68] (by decide +kernel) (by decide +kernel)
set_option maxRecDepth 20000 in
theorem gX11_laysPicture_X11_laysLoud : GoodIn wsX11_laysPicture (wsV RX11 245 RX11 yX11_laysLoud wsX11_laysLoud) := goodIn_app (goodIn_of _ (by decide +kernel)) ggX11_laysPicture_X11_laysLoud
set_option maxRecDepth 20000 in
theorem ggX11_laysPicture_X11_freeHits : GoodIn wsX11_laysPicture wsX11_freeHits := goodIn_r _ [38, 3, 1, 20, 21, 22, 10, 23, 39, 40, 41, 42, 43, 44, 45, 46, 47, 48, 49, 50, 51, 52, 53, 54, 55, 56, 57, 58, 59, 60, 61, 62, 63, 64, 65, 66, 67, 68] (by decide +kernel) (by decide +kernel)
set_option maxRecDepth 20000 in
theorem gX11_laysPicture_X11_freeHits : GoodIn wsX11_laysPicture (wsV RX11 248 RX11 yX11_freeHits wsX11_freeHits) := goodIn_app (goodIn_of _ (by decide +kernel)) ggX11_laysPicture_X11_freeHits
set_option maxRecDepth 20000 in
theorem ggX11_laysPicture_X11_gapAt : GoodIn wsX11_laysPicture wsX11_gapAt := goodIn_r _ [23, 3, 39, 40, 41, 42, 43, 44, 45, 46, 47, 48, 49, 50, 51, 52, 53, 54, 55, 56, 57, 58, 59, 60, 61, 62, 63, 64, 65, 66, 67, 68] (by decide +kernel) (by decide +kernel)
set_option maxRecDepth 20000 in
theorem gX11_laysPicture_X11_gapAt : GoodIn wsX11_laysPicture (wsV RX11 185 RX11 yX11_gapAt wsX11_gapAt) := goodIn_app (goodIn_of _ (by decide +kernel)) ggX11_laysPicture_X11_gapAt
theorem dX11_laysPicture_0 : decode cX11_laysPicture 0 = .ok (.aload_n 0, 1) := by decide +kernel
theorem dX11_laysPicture_1 : decode cX11_laysPicture 1 = .ok (.invokevirtual 245, 3) := by decide +kernel
theorem dX11_laysPicture_4 : decode cX11_laysPicture 4 = .ok (.iconst 0, 1) := by decide +kernel
theorem dX11_laysPicture_5 : decode cX11_laysPicture 5 = .ok (.istore_n 1, 1) := by decide +kernel
theorem dX11_laysPicture_6 : decode cX11_laysPicture 6 = .ok (.iload_n 1, 1) := by decide +kernel
theorem dX11_laysPicture_7 : decode cX11_laysPicture 7 = .ok (.sipush 300, 3) := by decide +kernel
theorem dX11_laysPicture_10 : decode cX11_laysPicture 10 = .ok (.if_icmp .ge 36, 3) := by decide +kernel
theorem dX11_laysPicture_13 : decode cX11_laysPicture 13 = .ok (.aload_n 0, 1) := by decide +kernel
theorem dX11_laysPicture_14 : decode cX11_laysPicture 14 = .ok (.getfield 36, 3) := by decide +kernel
theorem dX11_laysPicture_17 : decode cX11_laysPicture 17 = .ok (.iload_n 1, 1) := by decide +kernel
theorem dX11_laysPicture_18 : decode cX11_laysPicture 18 = .ok (.aload_n 0, 1) := by decide +kernel
theorem dX11_laysPicture_19 : decode cX11_laysPicture 19 = .ok (.getfield 27, 3) := by decide +kernel
theorem dX11_laysPicture_22 : decode cX11_laysPicture 22 = .ok (.iload_n 1, 1) := by decide +kernel
theorem dX11_laysPicture_23 : decode cX11_laysPicture 23 = .ok (.iaload, 1) := by decide +kernel
theorem dX11_laysPicture_24 : decode cX11_laysPicture 24 = .ok (.aload_n 0, 1) := by decide +kernel
theorem dX11_laysPicture_25 : decode cX11_laysPicture 25 = .ok (.getfield 7, 3) := by decide +kernel
theorem dX11_laysPicture_28 : decode cX11_laysPicture 28 = .ok (.bipush 12, 2) := by decide +kernel
theorem dX11_laysPicture_30 : decode cX11_laysPicture 30 = .ok (.iaload, 1) := by decide +kernel
theorem dX11_laysPicture_31 : decode cX11_laysPicture 31 = .ok (.if_icmp .lt 7, 3) := by decide +kernel
theorem dX11_laysPicture_34 : decode cX11_laysPicture 34 = .ok (.iconst 1, 1) := by decide +kernel
theorem dX11_laysPicture_35 : decode cX11_laysPicture 35 = .ok (.goto 4, 3) := by decide +kernel
theorem dX11_laysPicture_38 : decode cX11_laysPicture 38 = .ok (.iconst 0, 1) := by decide +kernel
theorem dX11_laysPicture_39 : decode cX11_laysPicture 39 = .ok (.bastore, 1) := by decide +kernel
theorem dX11_laysPicture_40 : decode cX11_laysPicture 40 = .ok (.iinc 1 1, 3) := by decide +kernel
theorem dX11_laysPicture_43 : decode cX11_laysPicture 43 = .ok (.goto (-37), 3) := by decide +kernel
theorem dX11_laysPicture_46 : decode cX11_laysPicture 46 = .ok (.aload_n 0, 1) := by decide +kernel
theorem dX11_laysPicture_47 : decode cX11_laysPicture 47 = .ok (.iconst 0, 1) := by decide +kernel
theorem dX11_laysPicture_48 : decode cX11_laysPicture 48 = .ok (.putfield 206, 3) := by decide +kernel
theorem dX11_laysPicture_51 : decode cX11_laysPicture 51 = .ok (.iconst 0, 1) := by decide +kernel
theorem dX11_laysPicture_52 : decode cX11_laysPicture 52 = .ok (.istore_n 1, 1) := by decide +kernel
theorem dX11_laysPicture_53 : decode cX11_laysPicture 53 = .ok (.iload_n 1, 1) := by decide +kernel
theorem dX11_laysPicture_54 : decode cX11_laysPicture 54 = .ok (.iconst (-1), 1) := by decide +kernel
theorem dX11_laysPicture_55 : decode cX11_laysPicture 55 = .ok (.if_icmp .eq 137, 3) := by decide +kernel
theorem dX11_laysPicture_58 : decode cX11_laysPicture 58 = .ok (.iconst (-1), 1) := by decide +kernel
theorem dX11_laysPicture_59 : decode cX11_laysPicture 59 = .ok (.istore_n 1, 1) := by decide +kernel
theorem dX11_laysPicture_60 : decode cX11_laysPicture 60 = .ok (.iconst 0, 1) := by decide +kernel
theorem dX11_laysPicture_61 : decode cX11_laysPicture 61 = .ok (.istore_n 2, 1) := by decide +kernel
theorem dX11_laysPicture_62 : decode cX11_laysPicture 62 = .ok (.iload_n 2, 1) := by decide +kernel
theorem dX11_laysPicture_63 : decode cX11_laysPicture 63 = .ok (.aload_n 0, 1) := by decide +kernel
theorem dX11_laysPicture_64 : decode cX11_laysPicture 64 = .ok (.getfield 7, 3) := by decide +kernel
theorem dX11_laysPicture_67 : decode cX11_laysPicture 67 = .ok (.bipush 9, 2) := by decide +kernel
theorem dX11_laysPicture_69 : decode cX11_laysPicture 69 = .ok (.iaload, 1) := by decide +kernel
theorem dX11_laysPicture_70 : decode cX11_laysPicture 70 = .ok (.if_icmp .ge 44, 3) := by decide +kernel
theorem dX11_laysPicture_73 : decode cX11_laysPicture 73 = .ok (.aload_n 0, 1) := by decide +kernel
theorem dX11_laysPicture_74 : decode cX11_laysPicture 74 = .ok (.iload_n 2, 1) := by decide +kernel
theorem dX11_laysPicture_75 : decode cX11_laysPicture 75 = .ok (.invokevirtual 248, 3) := by decide +kernel
theorem dX11_laysPicture_78 : decode cX11_laysPicture 78 = .ok (.aload_n 0, 1) := by decide +kernel
theorem dX11_laysPicture_79 : decode cX11_laysPicture 79 = .ok (.getfield 7, 3) := by decide +kernel
theorem dX11_laysPicture_82 : decode cX11_laysPicture 82 = .ok (.bipush 10, 2) := by decide +kernel
theorem dX11_laysPicture_84 : decode cX11_laysPicture 84 = .ok (.iaload, 1) := by decide +kernel
theorem dX11_laysPicture_85 : decode cX11_laysPicture 85 = .ok (.if_icmp .lt 23, 3) := by decide +kernel
theorem dX11_laysPicture_88 : decode cX11_laysPicture 88 = .ok (.iload_n 1, 1) := by decide +kernel
theorem dX11_laysPicture_89 : decode cX11_laysPicture 89 = .ok (.iconst (-1), 1) := by decide +kernel
theorem dX11_laysPicture_90 : decode cX11_laysPicture 90 = .ok (.if_icmp .eq 16, 3) := by decide +kernel
theorem dX11_laysPicture_93 : decode cX11_laysPicture 93 = .ok (.aload_n 0, 1) := by decide +kernel
theorem dX11_laysPicture_94 : decode cX11_laysPicture 94 = .ok (.iload_n 2, 1) := by decide +kernel
theorem dX11_laysPicture_95 : decode cX11_laysPicture 95 = .ok (.invokevirtual 248, 3) := by decide +kernel
theorem dX11_laysPicture_98 : decode cX11_laysPicture 98 = .ok (.aload_n 0, 1) := by decide +kernel
theorem dX11_laysPicture_99 : decode cX11_laysPicture 99 = .ok (.iload_n 1, 1) := by decide +kernel
theorem dX11_laysPicture_100 : decode cX11_laysPicture 100 = .ok (.invokevirtual 248, 3) := by decide +kernel
theorem dX11_laysPicture_103 : decode cX11_laysPicture 103 = .ok (.if_icmp .le 5, 3) := by decide +kernel
theorem dX11_laysPicture_106 : decode cX11_laysPicture 106 = .ok (.iload_n 2, 1) := by decide +kernel
theorem dX11_laysPicture_107 : decode cX11_laysPicture 107 = .ok (.istore_n 1, 1) := by decide +kernel
theorem dX11_laysPicture_108 : decode cX11_laysPicture 108 = .ok (.iinc 2 1, 3) := by decide +kernel
theorem dX11_laysPicture_111 : decode cX11_laysPicture 111 = .ok (.goto (-49), 3) := by decide +kernel
theorem dX11_laysPicture_114 : decode cX11_laysPicture 114 = .ok (.iload_n 1, 1) := by decide +kernel
theorem dX11_laysPicture_115 : decode cX11_laysPicture 115 = .ok (.iconst (-1), 1) := by decide +kernel
theorem dX11_laysPicture_116 : decode cX11_laysPicture 116 = .ok (.if_icmp .eq (-63), 3) := by decide +kernel
theorem dX11_laysPicture_119 : decode cX11_laysPicture 119 = .ok (.aload_n 0, 1) := by decide +kernel
theorem dX11_laysPicture_120 : decode cX11_laysPicture 120 = .ok (.getfield 30, 3) := by decide +kernel
theorem dX11_laysPicture_123 : decode cX11_laysPicture 123 = .ok (.aload_n 0, 1) := by decide +kernel
theorem dX11_laysPicture_124 : decode cX11_laysPicture 124 = .ok (.getfield 206, 3) := by decide +kernel
theorem dX11_laysPicture_127 : decode cX11_laysPicture 127 = .ok (.iload_n 1, 1) := by decide +kernel
theorem dX11_laysPicture_128 : decode cX11_laysPicture 128 = .ok (.iastore, 1) := by decide +kernel
theorem dX11_laysPicture_129 : decode cX11_laysPicture 129 = .ok (.aload_n 0, 1) := by decide +kernel
theorem dX11_laysPicture_130 : decode cX11_laysPicture 130 = .ok (.getfield 33, 3) := by decide +kernel
theorem dX11_laysPicture_133 : decode cX11_laysPicture 133 = .ok (.aload_n 0, 1) := by decide +kernel
theorem dX11_laysPicture_134 : decode cX11_laysPicture 134 = .ok (.getfield 206, 3) := by decide +kernel
theorem dX11_laysPicture_137 : decode cX11_laysPicture 137 = .ok (.aload_n 0, 1) := by decide +kernel
theorem dX11_laysPicture_138 : decode cX11_laysPicture 138 = .ok (.iload_n 1, 1) := by decide +kernel
theorem dX11_laysPicture_139 : decode cX11_laysPicture 139 = .ok (.invokevirtual 248, 3) := by decide +kernel
theorem dX11_laysPicture_142 : decode cX11_laysPicture 142 = .ok (.iastore, 1) := by decide +kernel
theorem dX11_laysPicture_143 : decode cX11_laysPicture 143 = .ok (.aload_n 0, 1) := by decide +kernel
theorem dX11_laysPicture_144 : decode cX11_laysPicture 144 = .ok (.dup, 1) := by decide +kernel
theorem dX11_laysPicture_145 : decode cX11_laysPicture 145 = .ok (.getfield 206, 3) := by decide +kernel
theorem dX11_laysPicture_148 : decode cX11_laysPicture 148 = .ok (.iconst 1, 1) := by decide +kernel
theorem dX11_laysPicture_149 : decode cX11_laysPicture 149 = .ok (.iadd, 1) := by decide +kernel
theorem dX11_laysPicture_150 : decode cX11_laysPicture 150 = .ok (.putfield 206, 3) := by decide +kernel
theorem dX11_laysPicture_153 : decode cX11_laysPicture 153 = .ok (.iconst 0, 1) := by decide +kernel
theorem dX11_laysPicture_154 : decode cX11_laysPicture 154 = .ok (.istore_n 2, 1) := by decide +kernel
theorem dX11_laysPicture_155 : decode cX11_laysPicture 155 = .ok (.iload_n 2, 1) := by decide +kernel
theorem dX11_laysPicture_156 : decode cX11_laysPicture 156 = .ok (.aload_n 0, 1) := by decide +kernel
theorem dX11_laysPicture_157 : decode cX11_laysPicture 157 = .ok (.getfield 7, 3) := by decide +kernel
theorem dX11_laysPicture_160 : decode cX11_laysPicture 160 = .ok (.iconst 0, 1) := by decide +kernel
theorem dX11_laysPicture_161 : decode cX11_laysPicture 161 = .ok (.iaload, 1) := by decide +kernel
theorem dX11_laysPicture_162 : decode cX11_laysPicture 162 = .ok (.if_icmp .ge 27, 3) := by decide +kernel
theorem dX11_laysPicture_165 : decode cX11_laysPicture 165 = .ok (.aload_n 0, 1) := by decide +kernel
theorem dX11_laysPicture_166 : decode cX11_laysPicture 166 = .ok (.getfield 36, 3) := by decide +kernel
theorem dX11_laysPicture_169 : decode cX11_laysPicture 169 = .ok (.bipush 60, 2) := by decide +kernel
theorem dX11_laysPicture_171 : decode cX11_laysPicture 171 = .ok (.iload_n 2, 1) := by decide +kernel
theorem dX11_laysPicture_172 : decode cX11_laysPicture 172 = .ok (.imul, 1) := by decide +kernel
theorem dX11_laysPicture_173 : decode cX11_laysPicture 173 = .ok (.iload_n 1, 1) := by decide +kernel
theorem dX11_laysPicture_174 : decode cX11_laysPicture 174 = .ok (.aload_n 0, 1) := by decide +kernel
theorem dX11_laysPicture_175 : decode cX11_laysPicture 175 = .ok (.iload_n 2, 1) := by decide +kernel
theorem dX11_laysPicture_176 : decode cX11_laysPicture 176 = .ok (.invokevirtual 185, 3) := by decide +kernel
theorem dX11_laysPicture_179 : decode cX11_laysPicture 179 = .ok (.irem, 1) := by decide +kernel
theorem dX11_laysPicture_180 : decode cX11_laysPicture 180 = .ok (.iadd, 1) := by decide +kernel
theorem dX11_laysPicture_181 : decode cX11_laysPicture 181 = .ok (.iconst 0, 1) := by decide +kernel
theorem dX11_laysPicture_182 : decode cX11_laysPicture 182 = .ok (.bastore, 1) := by decide +kernel
theorem dX11_laysPicture_183 : decode cX11_laysPicture 183 = .ok (.iinc 2 1, 3) := by decide +kernel
theorem dX11_laysPicture_186 : decode cX11_laysPicture 186 = .ok (.goto (-31), 3) := by decide +kernel
theorem dX11_laysPicture_189 : decode cX11_laysPicture 189 = .ok (.goto (-136), 3) := by decide +kernel
theorem dX11_laysPicture_192 : decode cX11_laysPicture 192 = .ok (.return_, 1) := by decide +kernel
set_option maxRecDepth 20000 in
theorem ggX11_echoes_X11_echoesOf : GoodIn wsX11_echoes wsX11_echoesOf := goodIn_r _ [6, 7, 8, 9, 5, 10, 1, 11, 12, 13, 14, 15, 16, 17, 18, 19, 20, 21, 22, 23, 24, 25, 26, 27, 28, 29, 30, 31, 32, 33, 34, 35, 36, 37, 38, 39, 40, 41, 42, 43, 44, 45] (by decide +kernel) (by decide +kernel)
set_option maxRecDepth 20000 in
theorem gX11_echoes_X11_echoesOf : GoodIn wsX11_echoes (wsV RX11 251 RX11 yX11_echoesOf wsX11_echoesOf) := goodIn_app (goodIn_of _ (by decide +kernel)) ggX11_echoes_X11_echoesOf
theorem dX11_echoes_0 : decode cX11_echoes 0 = .ok (.iconst 0, 1) := by decide +kernel
theorem dX11_echoes_1 : decode cX11_echoes 1 = .ok (.istore_n 1, 1) := by decide +kernel
theorem dX11_echoes_2 : decode cX11_echoes 2 = .ok (.iconst 0, 1) := by decide +kernel
theorem dX11_echoes_3 : decode cX11_echoes 3 = .ok (.istore_n 2, 1) := by decide +kernel
theorem dX11_echoes_4 : decode cX11_echoes 4 = .ok (.iload_n 2, 1) := by decide +kernel
theorem dX11_echoes_5 : decode cX11_echoes 5 = .ok (.aload_n 0, 1) := by decide +kernel
theorem dX11_echoes_6 : decode cX11_echoes 6 = .ok (.getfield 7, 3) := by decide +kernel
theorem dX11_echoes_9 : decode cX11_echoes 9 = .ok (.iconst 0, 1) := by decide +kernel
theorem dX11_echoes_10 : decode cX11_echoes 10 = .ok (.iaload, 1) := by decide +kernel
theorem dX11_echoes_11 : decode cX11_echoes 11 = .ok (.if_icmp .ge 17, 3) := by decide +kernel
theorem dX11_echoes_14 : decode cX11_echoes 14 = .ok (.iload_n 1, 1) := by decide +kernel
theorem dX11_echoes_15 : decode cX11_echoes 15 = .ok (.aload_n 0, 1) := by decide +kernel
theorem dX11_echoes_16 : decode cX11_echoes 16 = .ok (.iload_n 2, 1) := by decide +kernel
theorem dX11_echoes_17 : decode cX11_echoes 17 = .ok (.invokevirtual 251, 3) := by decide +kernel
theorem dX11_echoes_20 : decode cX11_echoes 20 = .ok (.iadd, 1) := by decide +kernel
theorem dX11_echoes_21 : decode cX11_echoes 21 = .ok (.istore_n 1, 1) := by decide +kernel
theorem dX11_echoes_22 : decode cX11_echoes 22 = .ok (.iinc 2 1, 3) := by decide +kernel
theorem dX11_echoes_25 : decode cX11_echoes 25 = .ok (.goto (-21), 3) := by decide +kernel
theorem dX11_echoes_28 : decode cX11_echoes 28 = .ok (.iload_n 1, 1) := by decide +kernel
theorem dX11_echoes_29 : decode cX11_echoes 29 = .ok (.ireturn, 1) := by decide +kernel
set_option maxRecDepth 20000 in
theorem ggX11_count_X11_laysLoud : GoodIn wsX11_count wsX11_laysLoud := goodIn_r _ [9, 10, 2, 11, 12, 13, 8, 14, 15, 16, 17, 18, 19, 20, 21, 22, 23, 24, 25, 26, 27, 28, 29, 30, 31, 32, 33, 92, 93, 94, 95, 96, 97, 98, 99, 100, 101, 102, 103, 104, 105, 106, 107, 108, 109, 110, 111, 112, 113, 114, 115, 116, 117, 118, 119, 120, 121] (by decide +kernel) (by decide +kernel)
set_option maxRecDepth 20000 in
theorem gX11_count_X11_laysLoud : GoodIn wsX11_count (wsV RX11 245 RX11 yX11_laysLoud wsX11_laysLoud) := goodIn_app (goodIn_of _ (by decide +kernel)) ggX11_count_X11_laysLoud
set_option maxRecDepth 20000 in
theorem ggX11_count_X11_darkMany : GoodIn wsX11_count wsX11_darkMany := goodIn_r _ [37, 2, 38, 39, 40, 8, 41, 42, 43, 44, 45, 19, 20, 21, 22, 27, 28, 29, 30, 31, 32, 33, 46, 47, 48, 92, 93, 94, 95, 96, 97, 98, 99, 100, 101, 102, 103, 104, 105, 106, 107, 108, 109, 110, 111, 112, 113, 114, 115, 116, 117, 118, 119, 120, 121] (by decide +kernel) (by decide +kernel)
set_option maxRecDepth 20000 in
theorem gX11_count_X11_darkMany : GoodIn wsX11_count (wsV RX11 254 RX11 yX11_darkMany wsX11_darkMany) := goodIn_app (goodIn_of _ (by decide +kernel)) ggX11_count_X11_darkMany
set_option maxRecDepth 20000 in
theorem ggX11_count_X11_echoes : GoodIn wsX11_count wsX11_echoes := goodIn_r _ [52, 2, 53, 54, 55, 8, 56, 19, 20, 21, 22, 57, 58, 59, 60, 10, 92, 93, 94, 95, 96, 97, 98, 99, 100, 101, 102, 103, 104, 105, 106, 107, 108, 109, 110, 111, 112, 113, 114, 115, 116, 117, 118, 119, 120, 121] (by decide +kernel) (by decide +kernel)
set_option maxRecDepth 20000 in
theorem gX11_count_X11_echoes : GoodIn wsX11_count (wsV RX11 257 RX11 yX11_echoes wsX11_echoes) := goodIn_app (goodIn_of _ (by decide +kernel)) ggX11_count_X11_echoes
set_option maxRecDepth 20000 in
theorem ggX11_count_X11_foundMany : GoodIn wsX11_count wsX11_foundMany := goodIn_r _ [64, 2, 65, 66, 67, 8, 68, 69, 70, 71, 72, 19, 20, 21, 22, 57, 58, 59, 60, 10, 46, 47, 48, 73, 74, 75, 76, 11, 12, 13, 14, 15, 16, 17, 18, 92, 93, 94, 95, 96, 97, 98, 99, 100, 101, 102, 103, 104, 105, 106, 107, 108, 109, 110, 111, 112, 113, 114, 115, 116, 117, 118, 119, 120, 121] (by decide +kernel) (by decide +kernel)
set_option maxRecDepth 20000 in
theorem gX11_count_X11_foundMany : GoodIn wsX11_count (wsV RX11 260 RX11 yX11_foundMany wsX11_foundMany) := goodIn_app (goodIn_of _ (by decide +kernel)) ggX11_count_X11_foundMany
set_option maxRecDepth 20000 in
theorem ggX11_count_X11_missedBits : GoodIn wsX11_count wsX11_missedBits := goodIn_r _ [80, 2, 11, 12, 13, 8, 14, 15, 16, 17, 18, 65, 66, 67, 68, 69, 70, 71, 72, 19, 20, 21, 22, 57, 58, 59, 60, 10, 46, 47, 48, 92, 93, 94, 95, 96, 97, 98, 99, 100, 101, 102, 103, 104, 105, 106, 107, 108, 109, 110, 111, 112, 113, 114, 115, 116, 117, 118, 119, 120, 121] (by decide +kernel) (by decide +kernel)
set_option maxRecDepth 20000 in
theorem gX11_count_X11_missedBits : GoodIn wsX11_count (wsV RX11 264 RX11 yX11_missedBits wsX11_missedBits) := goodIn_app (goodIn_of _ (by decide +kernel)) ggX11_count_X11_missedBits
set_option maxRecDepth 20000 in
theorem ggX11_count_X11_laysPicture : GoodIn wsX11_count wsX11_laysPicture := goodIn_r _ [84, 85, 10, 2, 3, 86, 87, 5, 6, 7, 8, 9, 11, 12, 13, 14, 15, 16, 17, 18, 19, 20, 21, 22, 23, 24, 25, 26, 27, 28, 29, 30, 31, 32, 33, 88, 89, 90, 91, 92, 93, 94, 95, 96, 97, 98, 99, 100, 101, 102, 103, 104, 105, 106, 107, 108, 109, 110, 111, 112, 113, 114, 115, 116, 117, 118, 119, 120, 121] (by decide +kernel) (by decide +kernel)
set_option maxRecDepth 20000 in
theorem gX11_count_X11_laysPicture : GoodIn wsX11_count (wsV RX11 203 RX11 yX11_laysPicture wsX11_laysPicture) := goodIn_app (goodIn_of _ (by decide +kernel)) ggX11_count_X11_laysPicture
theorem dX11_count_0 : decode cX11_count 0 = .ok (.aload_n 0, 1) := by decide +kernel
theorem dX11_count_1 : decode cX11_count 1 = .ok (.iconst 0, 1) := by decide +kernel
theorem dX11_count_2 : decode cX11_count 2 = .ok (.putfield 66, 3) := by decide +kernel
theorem dX11_count_5 : decode cX11_count 5 = .ok (.aload_n 0, 1) := by decide +kernel
theorem dX11_count_6 : decode cX11_count 6 = .ok (.invokevirtual 245, 3) := by decide +kernel
theorem dX11_count_9 : decode cX11_count 9 = .ok (.iload_n 1, 1) := by decide +kernel
theorem dX11_count_10 : decode cX11_count 10 = .ok (.tableswitch 198 0 19 #[94, 101, 101, 101, 101, 101, 101, 101, 113, 121, 129, 137, 142, 147, 147, 163, 168, 177, 182, 190], 94) := by decide +kernel
theorem dX11_count_104 : decode cX11_count 104 = .ok (.aload_n 0, 1) := by decide +kernel
theorem dX11_count_105 : decode cX11_count 105 = .ok (.getfield 7, 3) := by decide +kernel
theorem dX11_count_108 : decode cX11_count 108 = .ok (.iconst 0, 1) := by decide +kernel
theorem dX11_count_109 : decode cX11_count 109 = .ok (.iaload, 1) := by decide +kernel
theorem dX11_count_110 : decode cX11_count 110 = .ok (.ireturn, 1) := by decide +kernel
theorem dX11_count_111 : decode cX11_count 111 = .ok (.aload_n 0, 1) := by decide +kernel
theorem dX11_count_112 : decode cX11_count 112 = .ok (.getfield 7, 3) := by decide +kernel
theorem dX11_count_115 : decode cX11_count 115 = .ok (.bipush 6, 2) := by decide +kernel
theorem dX11_count_117 : decode cX11_count 117 = .ok (.iload_n 1, 1) := by decide +kernel
theorem dX11_count_118 : decode cX11_count 118 = .ok (.iadd, 1) := by decide +kernel
theorem dX11_count_119 : decode cX11_count 119 = .ok (.iconst 1, 1) := by decide +kernel
theorem dX11_count_120 : decode cX11_count 120 = .ok (.isub, 1) := by decide +kernel
theorem dX11_count_121 : decode cX11_count 121 = .ok (.iaload, 1) := by decide +kernel
theorem dX11_count_122 : decode cX11_count 122 = .ok (.ireturn, 1) := by decide +kernel
theorem dX11_count_123 : decode cX11_count 123 = .ok (.aload_n 0, 1) := by decide +kernel
theorem dX11_count_124 : decode cX11_count 124 = .ok (.getfield 7, 3) := by decide +kernel
theorem dX11_count_127 : decode cX11_count 127 = .ok (.bipush 13, 2) := by decide +kernel
theorem dX11_count_129 : decode cX11_count 129 = .ok (.iaload, 1) := by decide +kernel
theorem dX11_count_130 : decode cX11_count 130 = .ok (.ireturn, 1) := by decide +kernel
theorem dX11_count_131 : decode cX11_count 131 = .ok (.aload_n 0, 1) := by decide +kernel
theorem dX11_count_132 : decode cX11_count 132 = .ok (.getfield 7, 3) := by decide +kernel
theorem dX11_count_135 : decode cX11_count 135 = .ok (.bipush 38, 2) := by decide +kernel
theorem dX11_count_137 : decode cX11_count 137 = .ok (.iaload, 1) := by decide +kernel
theorem dX11_count_138 : decode cX11_count 138 = .ok (.ireturn, 1) := by decide +kernel
theorem dX11_count_139 : decode cX11_count 139 = .ok (.aload_n 0, 1) := by decide +kernel
theorem dX11_count_140 : decode cX11_count 140 = .ok (.getfield 7, 3) := by decide +kernel
theorem dX11_count_143 : decode cX11_count 143 = .ok (.bipush 39, 2) := by decide +kernel
theorem dX11_count_145 : decode cX11_count 145 = .ok (.iaload, 1) := by decide +kernel
theorem dX11_count_146 : decode cX11_count 146 = .ok (.ireturn, 1) := by decide +kernel
theorem dX11_count_147 : decode cX11_count 147 = .ok (.aload_n 0, 1) := by decide +kernel
theorem dX11_count_148 : decode cX11_count 148 = .ok (.invokevirtual 254, 3) := by decide +kernel
theorem dX11_count_151 : decode cX11_count 151 = .ok (.ireturn, 1) := by decide +kernel
theorem dX11_count_152 : decode cX11_count 152 = .ok (.aload_n 0, 1) := by decide +kernel
theorem dX11_count_153 : decode cX11_count 153 = .ok (.invokevirtual 257, 3) := by decide +kernel
theorem dX11_count_156 : decode cX11_count 156 = .ok (.ireturn, 1) := by decide +kernel
theorem dX11_count_157 : decode cX11_count 157 = .ok (.aload_n 0, 1) := by decide +kernel
theorem dX11_count_158 : decode cX11_count 158 = .ok (.iload_n 1, 1) := by decide +kernel
theorem dX11_count_159 : decode cX11_count 159 = .ok (.bipush 14, 2) := by decide +kernel
theorem dX11_count_161 : decode cX11_count 161 = .ok (.if_icmp .ne 7, 3) := by decide +kernel
theorem dX11_count_164 : decode cX11_count 164 = .ok (.iconst 1, 1) := by decide +kernel
theorem dX11_count_165 : decode cX11_count 165 = .ok (.goto 4, 3) := by decide +kernel
theorem dX11_count_168 : decode cX11_count 168 = .ok (.iconst 0, 1) := by decide +kernel
theorem dX11_count_169 : decode cX11_count 169 = .ok (.invokevirtual 260, 3) := by decide +kernel
theorem dX11_count_172 : decode cX11_count 172 = .ok (.ireturn, 1) := by decide +kernel
theorem dX11_count_173 : decode cX11_count 173 = .ok (.aload_n 0, 1) := by decide +kernel
theorem dX11_count_174 : decode cX11_count 174 = .ok (.invokevirtual 264, 3) := by decide +kernel
theorem dX11_count_177 : decode cX11_count 177 = .ok (.ireturn, 1) := by decide +kernel
theorem dX11_count_178 : decode cX11_count 178 = .ok (.aload_n 0, 1) := by decide +kernel
theorem dX11_count_179 : decode cX11_count 179 = .ok (.invokevirtual 203, 3) := by decide +kernel
theorem dX11_count_182 : decode cX11_count 182 = .ok (.aload_n 0, 1) := by decide +kernel
theorem dX11_count_183 : decode cX11_count 183 = .ok (.getfield 206, 3) := by decide +kernel
theorem dX11_count_186 : decode cX11_count 186 = .ok (.ireturn, 1) := by decide +kernel
theorem dX11_count_187 : decode cX11_count 187 = .ok (.aload_n 0, 1) := by decide +kernel
theorem dX11_count_188 : decode cX11_count 188 = .ok (.getfield 176, 3) := by decide +kernel
theorem dX11_count_191 : decode cX11_count 191 = .ok (.ireturn, 1) := by decide +kernel
theorem dX11_count_192 : decode cX11_count 192 = .ok (.aload_n 0, 1) := by decide +kernel
theorem dX11_count_193 : decode cX11_count 193 = .ok (.getfield 7, 3) := by decide +kernel
theorem dX11_count_196 : decode cX11_count 196 = .ok (.bipush 97, 2) := by decide +kernel
theorem dX11_count_198 : decode cX11_count 198 = .ok (.iaload, 1) := by decide +kernel
theorem dX11_count_199 : decode cX11_count 199 = .ok (.ireturn, 1) := by decide +kernel
theorem dX11_count_200 : decode cX11_count 200 = .ok (.aload_n 0, 1) := by decide +kernel
theorem dX11_count_201 : decode cX11_count 201 = .ok (.getfield 7, 3) := by decide +kernel
theorem dX11_count_204 : decode cX11_count 204 = .ok (.bipush 40, 2) := by decide +kernel
theorem dX11_count_206 : decode cX11_count 206 = .ok (.iaload, 1) := by decide +kernel
theorem dX11_count_207 : decode cX11_count 207 = .ok (.ireturn, 1) := by decide +kernel
theorem dX11_count_208 : decode cX11_count 208 = .ok (.iconst (-1), 1) := by decide +kernel
theorem dX11_count_209 : decode cX11_count 209 = .ok (.ireturn, 1) := by decide +kernel
set_option maxRecDepth 20000 in
theorem ggX11_seenBits_X11_isSeen : GoodIn wsX11_seenBits wsX11_isSeen := goodIn_r _ [6, 1, 7, 8, 9, 5, 10, 11, 12, 13, 14, 15, 16, 17, 18, 19, 20, 21, 22, 23, 24, 25, 26, 27, 28, 29, 30, 31, 32, 33, 34, 35, 36, 37, 38, 39, 40, 41, 42, 43, 44, 45, 46, 47, 48, 49, 50, 51, 52, 53, 54, 55] (by decide +kernel) (by decide +kernel)
set_option maxRecDepth 20000 in
theorem gX11_seenBits_X11_isSeen : GoodIn wsX11_seenBits (wsV RX11 230 RX11 yX11_isSeen wsX11_isSeen) := goodIn_app (goodIn_of _ (by decide +kernel)) ggX11_seenBits_X11_isSeen
theorem dX11_seenBits_0 : decode cX11_seenBits 0 = .ok (.iconst 0, 1) := by decide +kernel
theorem dX11_seenBits_1 : decode cX11_seenBits 1 = .ok (.istore_n 2, 1) := by decide +kernel
theorem dX11_seenBits_2 : decode cX11_seenBits 2 = .ok (.iconst 0, 1) := by decide +kernel
theorem dX11_seenBits_3 : decode cX11_seenBits 3 = .ok (.istore_n 3, 1) := by decide +kernel
theorem dX11_seenBits_4 : decode cX11_seenBits 4 = .ok (.iload_n 3, 1) := by decide +kernel
theorem dX11_seenBits_5 : decode cX11_seenBits 5 = .ok (.aload_n 0, 1) := by decide +kernel
theorem dX11_seenBits_6 : decode cX11_seenBits 6 = .ok (.getfield 7, 3) := by decide +kernel
theorem dX11_seenBits_9 : decode cX11_seenBits 9 = .ok (.bipush 13, 2) := by decide +kernel
theorem dX11_seenBits_11 : decode cX11_seenBits 11 = .ok (.iaload, 1) := by decide +kernel
theorem dX11_seenBits_12 : decode cX11_seenBits 12 = .ok (.if_icmp .ge 28, 3) := by decide +kernel
theorem dX11_seenBits_15 : decode cX11_seenBits 15 = .ok (.iload_n 2, 1) := by decide +kernel
theorem dX11_seenBits_16 : decode cX11_seenBits 16 = .ok (.aload_n 0, 1) := by decide +kernel
theorem dX11_seenBits_17 : decode cX11_seenBits 17 = .ok (.iload_n 3, 1) := by decide +kernel
theorem dX11_seenBits_18 : decode cX11_seenBits 18 = .ok (.iload_n 1, 1) := by decide +kernel
theorem dX11_seenBits_19 : decode cX11_seenBits 19 = .ok (.invokevirtual 230, 3) := by decide +kernel
theorem dX11_seenBits_22 : decode cX11_seenBits 22 = .ok (.ifCond .eq 9, 3) := by decide +kernel
theorem dX11_seenBits_25 : decode cX11_seenBits 25 = .ok (.iconst 1, 1) := by decide +kernel
theorem dX11_seenBits_26 : decode cX11_seenBits 26 = .ok (.iload_n 3, 1) := by decide +kernel
theorem dX11_seenBits_27 : decode cX11_seenBits 27 = .ok (.ishl, 1) := by decide +kernel
theorem dX11_seenBits_28 : decode cX11_seenBits 28 = .ok (.goto 4, 3) := by decide +kernel
theorem dX11_seenBits_31 : decode cX11_seenBits 31 = .ok (.iconst 0, 1) := by decide +kernel
theorem dX11_seenBits_32 : decode cX11_seenBits 32 = .ok (.ior, 1) := by decide +kernel
theorem dX11_seenBits_33 : decode cX11_seenBits 33 = .ok (.istore_n 2, 1) := by decide +kernel
theorem dX11_seenBits_34 : decode cX11_seenBits 34 = .ok (.iinc 3 1, 3) := by decide +kernel
theorem dX11_seenBits_37 : decode cX11_seenBits 37 = .ok (.goto (-33), 3) := by decide +kernel
theorem dX11_seenBits_40 : decode cX11_seenBits 40 = .ok (.iload_n 2, 1) := by decide +kernel
theorem dX11_seenBits_41 : decode cX11_seenBits 41 = .ok (.ireturn, 1) := by decide +kernel
set_option maxRecDepth 20000 in
theorem ggX11_blindMany_X11_isBlind : GoodIn wsX11_blindMany wsX11_isBlind := goodIn_r _ [6, 1, 7, 8, 5, 9, 10, 11, 12, 13, 14, 15, 16, 17, 18, 19, 20, 21, 22, 23, 24, 25, 26, 27, 28, 29, 30, 31, 32, 33, 34, 35, 36, 37, 38, 39] (by decide +kernel) (by decide +kernel)
set_option maxRecDepth 20000 in
theorem gX11_blindMany_X11_isBlind : GoodIn wsX11_blindMany (wsV RX11 215 RX11 yX11_isBlind wsX11_isBlind) := goodIn_app (goodIn_of _ (by decide +kernel)) ggX11_blindMany_X11_isBlind
theorem dX11_blindMany_0 : decode cX11_blindMany 0 = .ok (.iconst 0, 1) := by decide +kernel
theorem dX11_blindMany_1 : decode cX11_blindMany 1 = .ok (.istore_n 2, 1) := by decide +kernel
theorem dX11_blindMany_2 : decode cX11_blindMany 2 = .ok (.iconst 1, 1) := by decide +kernel
theorem dX11_blindMany_3 : decode cX11_blindMany 3 = .ok (.istore_n 3, 1) := by decide +kernel
theorem dX11_blindMany_4 : decode cX11_blindMany 4 = .ok (.iload_n 3, 1) := by decide +kernel
theorem dX11_blindMany_5 : decode cX11_blindMany 5 = .ok (.aload_n 0, 1) := by decide +kernel
theorem dX11_blindMany_6 : decode cX11_blindMany 6 = .ok (.getfield 7, 3) := by decide +kernel
theorem dX11_blindMany_9 : decode cX11_blindMany 9 = .ok (.bipush 11, 2) := by decide +kernel
theorem dX11_blindMany_11 : decode cX11_blindMany 11 = .ok (.iaload, 1) := by decide +kernel
theorem dX11_blindMany_12 : decode cX11_blindMany 12 = .ok (.if_icmp .gt 26, 3) := by decide +kernel
theorem dX11_blindMany_15 : decode cX11_blindMany 15 = .ok (.iload_n 2, 1) := by decide +kernel
theorem dX11_blindMany_16 : decode cX11_blindMany 16 = .ok (.aload_n 0, 1) := by decide +kernel
theorem dX11_blindMany_17 : decode cX11_blindMany 17 = .ok (.iload_n 3, 1) := by decide +kernel
theorem dX11_blindMany_18 : decode cX11_blindMany 18 = .ok (.iload_n 1, 1) := by decide +kernel
theorem dX11_blindMany_19 : decode cX11_blindMany 19 = .ok (.invokevirtual 215, 3) := by decide +kernel
theorem dX11_blindMany_22 : decode cX11_blindMany 22 = .ok (.ifCond .eq 7, 3) := by decide +kernel
theorem dX11_blindMany_25 : decode cX11_blindMany 25 = .ok (.iconst 1, 1) := by decide +kernel
theorem dX11_blindMany_26 : decode cX11_blindMany 26 = .ok (.goto 4, 3) := by decide +kernel
theorem dX11_blindMany_29 : decode cX11_blindMany 29 = .ok (.iconst 0, 1) := by decide +kernel
theorem dX11_blindMany_30 : decode cX11_blindMany 30 = .ok (.iadd, 1) := by decide +kernel
theorem dX11_blindMany_31 : decode cX11_blindMany 31 = .ok (.istore_n 2, 1) := by decide +kernel
theorem dX11_blindMany_32 : decode cX11_blindMany 32 = .ok (.iinc 3 1, 3) := by decide +kernel
theorem dX11_blindMany_35 : decode cX11_blindMany 35 = .ok (.goto (-31), 3) := by decide +kernel
theorem dX11_blindMany_38 : decode cX11_blindMany 38 = .ok (.iload_n 2, 1) := by decide +kernel
theorem dX11_blindMany_39 : decode cX11_blindMany 39 = .ok (.ireturn, 1) := by decide +kernel
set_option maxRecDepth 20000 in
theorem ggX11_gapOf_X11_isGap : GoodIn wsX11_gapOf wsX11_isGap := goodIn_r _ [6, 7, 8, 9, 5, 10, 55, 56, 57, 58, 59, 60, 61, 62, 63, 64, 65, 66, 67, 68, 69, 70, 71, 72, 73, 74, 75, 76, 77, 78, 79, 80, 81, 82, 83, 84] (by decide +kernel) (by decide +kernel)
set_option maxRecDepth 20000 in
theorem gX11_gapOf_X11_isGap : GoodIn wsX11_gapOf (wsV RX11 267 RX11 yX11_isGap wsX11_isGap) := goodIn_app (goodIn_of _ (by decide +kernel)) ggX11_gapOf_X11_isGap
set_option maxRecDepth 20000 in
theorem ggX11_gapOf_X11_in : GoodIn wsX11_gapOf wsX11_in := goodIn_r _ [10] (by decide +kernel) (by decide +kernel)
set_option maxRecDepth 20000 in
theorem gX11_gapOf_X11_in : GoodIn wsX11_gapOf (va_wsS RX11 70 yX11_in wsX11_in) := goodIn_app (goodIn_of _ (by decide +kernel)) ggX11_gapOf_X11_in
set_option maxRecDepth 20000 in
theorem ggX11_gapOf_X11_laysLoud : GoodIn wsX11_gapOf wsX11_laysLoud := goodIn_r _ [14, 15, 7, 16, 17, 18, 5, 19, 20, 21, 22, 23, 24, 25, 26, 27, 28, 29, 30, 31, 32, 33, 34, 35, 36, 37, 38, 55, 56, 57, 58, 59, 60, 61, 62, 63, 64, 65, 66, 67, 68, 69, 70, 71, 72, 73, 74, 75, 76, 77, 78, 79, 80, 81, 82, 83, 84] (by decide +kernel) (by decide +kernel)
set_option maxRecDepth 20000 in
theorem gX11_gapOf_X11_laysLoud : GoodIn wsX11_gapOf (wsV RX11 245 RX11 yX11_laysLoud wsX11_laysLoud) := goodIn_app (goodIn_of _ (by decide +kernel)) ggX11_gapOf_X11_laysLoud
set_option maxRecDepth 20000 in
theorem ggX11_gapOf_X11_gapAt : GoodIn wsX11_gapOf wsX11_gapAt := goodIn_r _ [27, 7, 55, 56, 57, 58, 59, 60, 61, 62, 63, 64, 65, 66, 67, 68, 69, 70, 71, 72, 73, 74, 75, 76, 77, 78, 79, 80, 81, 82, 83, 84] (by decide +kernel) (by decide +kernel)
set_option maxRecDepth 20000 in
theorem gX11_gapOf_X11_gapAt : GoodIn wsX11_gapOf (wsV RX11 185 RX11 yX11_gapAt wsX11_gapAt) := goodIn_app (goodIn_of _ (by decide +kernel)) ggX11_gapOf_X11_gapAt
set_option maxRecDepth 20000 in
theorem ggX11_gapOf_X11_echoesOf : GoodIn wsX11_gapOf wsX11_echoesOf := goodIn_r _ [42, 24, 25, 26, 5, 27, 7, 43, 44, 45, 46, 15, 55, 56, 57, 58, 59, 60, 61, 62, 63, 64, 65, 66, 67, 68, 69, 70, 71, 72, 73, 74, 75, 76, 77, 78, 79, 80, 81, 82, 83, 84] (by decide +kernel) (by decide +kernel)
set_option maxRecDepth 20000 in
theorem gX11_gapOf_X11_echoesOf : GoodIn wsX11_gapOf (wsV RX11 251 RX11 yX11_echoesOf wsX11_echoesOf) := goodIn_app (goodIn_of _ (by decide +kernel)) ggX11_gapOf_X11_echoesOf
set_option maxRecDepth 20000 in
theorem ggX11_gapOf_X11_seenBits : GoodIn wsX11_gapOf wsX11_seenBits := goodIn_r _ [50, 7, 28, 29, 30, 5, 31, 20, 21, 22, 23, 24, 25, 26, 27, 32, 33, 34, 35, 36, 37, 38, 16, 17, 18, 19, 55, 56, 57, 58, 59, 60, 61, 62, 63, 64, 65, 66, 67, 68, 69, 70, 71, 72, 73, 74, 75, 76, 77, 78, 79, 80, 81, 82, 83, 84] (by decide +kernel) (by decide +kernel)
set_option maxRecDepth 20000 in
theorem gX11_gapOf_X11_seenBits : GoodIn wsX11_gapOf (wsV RX11 270 RX11 yX11_seenBits wsX11_seenBits) := goodIn_app (goodIn_of _ (by decide +kernel)) ggX11_gapOf_X11_seenBits
set_option maxRecDepth 20000 in
theorem ggX11_gapOf_X11_blindMany : GoodIn wsX11_gapOf wsX11_blindMany := goodIn_r _ [54, 7, 32, 33, 34, 5, 35, 36, 37, 38, 55, 56, 57, 58, 59, 60, 61, 62, 63, 64, 65, 66, 67, 68, 69, 70, 71, 72, 73, 74, 75, 76, 77, 78, 79, 80, 81, 82, 83, 84] (by decide +kernel) (by decide +kernel)
set_option maxRecDepth 20000 in
theorem gX11_gapOf_X11_blindMany : GoodIn wsX11_gapOf (wsV RX11 273 RX11 yX11_blindMany wsX11_blindMany) := goodIn_app (goodIn_of _ (by decide +kernel)) ggX11_gapOf_X11_blindMany
theorem dX11_gapOf_0 : decode cX11_gapOf 0 = .ok (.aload_n 0, 1) := by decide +kernel
theorem dX11_gapOf_1 : decode cX11_gapOf 1 = .ok (.aload_n 0, 1) := by decide +kernel
theorem dX11_gapOf_2 : decode cX11_gapOf 2 = .ok (.iload_n 1, 1) := by decide +kernel
theorem dX11_gapOf_3 : decode cX11_gapOf 3 = .ok (.invokevirtual 267, 3) := by decide +kernel
theorem dX11_gapOf_6 : decode cX11_gapOf 6 = .ok (.ifCond .eq 16, 3) := by decide +kernel
theorem dX11_gapOf_9 : decode cX11_gapOf 9 = .ok (.iload_n 2, 1) := by decide +kernel
theorem dX11_gapOf_10 : decode cX11_gapOf 10 = .ok (.iconst 0, 1) := by decide +kernel
theorem dX11_gapOf_11 : decode cX11_gapOf 11 = .ok (.iconst 3, 1) := by decide +kernel
theorem dX11_gapOf_12 : decode cX11_gapOf 12 = .ok (.invokestatic 70, 3) := by decide +kernel
theorem dX11_gapOf_15 : decode cX11_gapOf 15 = .ok (.ifCond .eq 7, 3) := by decide +kernel
theorem dX11_gapOf_18 : decode cX11_gapOf 18 = .ok (.iconst 0, 1) := by decide +kernel
theorem dX11_gapOf_19 : decode cX11_gapOf 19 = .ok (.goto 4, 3) := by decide +kernel
theorem dX11_gapOf_22 : decode cX11_gapOf 22 = .ok (.iconst 1, 1) := by decide +kernel
theorem dX11_gapOf_23 : decode cX11_gapOf 23 = .ok (.putfield 66, 3) := by decide +kernel
theorem dX11_gapOf_26 : decode cX11_gapOf 26 = .ok (.aload_n 0, 1) := by decide +kernel
theorem dX11_gapOf_27 : decode cX11_gapOf 27 = .ok (.getfield 66, 3) := by decide +kernel
theorem dX11_gapOf_30 : decode cX11_gapOf 30 = .ok (.ifCond .le 5, 3) := by decide +kernel
theorem dX11_gapOf_33 : decode cX11_gapOf 33 = .ok (.iconst 0, 1) := by decide +kernel
theorem dX11_gapOf_34 : decode cX11_gapOf 34 = .ok (.ireturn, 1) := by decide +kernel
theorem dX11_gapOf_35 : decode cX11_gapOf 35 = .ok (.aload_n 0, 1) := by decide +kernel
theorem dX11_gapOf_36 : decode cX11_gapOf 36 = .ok (.invokevirtual 245, 3) := by decide +kernel
theorem dX11_gapOf_39 : decode cX11_gapOf 39 = .ok (.iload_n 2, 1) := by decide +kernel
theorem dX11_gapOf_40 : decode cX11_gapOf 40 = .ok (.ifCond .ne 11, 3) := by decide +kernel
theorem dX11_gapOf_43 : decode cX11_gapOf 43 = .ok (.aload_n 0, 1) := by decide +kernel
theorem dX11_gapOf_44 : decode cX11_gapOf 44 = .ok (.iload_n 1, 1) := by decide +kernel
theorem dX11_gapOf_45 : decode cX11_gapOf 45 = .ok (.invokevirtual 185, 3) := by decide +kernel
theorem dX11_gapOf_48 : decode cX11_gapOf 48 = .ok (.goto 38, 3) := by decide +kernel
theorem dX11_gapOf_51 : decode cX11_gapOf 51 = .ok (.iload_n 2, 1) := by decide +kernel
theorem dX11_gapOf_52 : decode cX11_gapOf 52 = .ok (.iconst 1, 1) := by decide +kernel
theorem dX11_gapOf_53 : decode cX11_gapOf 53 = .ok (.if_icmp .ne 11, 3) := by decide +kernel
theorem dX11_gapOf_56 : decode cX11_gapOf 56 = .ok (.aload_n 0, 1) := by decide +kernel
theorem dX11_gapOf_57 : decode cX11_gapOf 57 = .ok (.iload_n 1, 1) := by decide +kernel
theorem dX11_gapOf_58 : decode cX11_gapOf 58 = .ok (.invokevirtual 251, 3) := by decide +kernel
theorem dX11_gapOf_61 : decode cX11_gapOf 61 = .ok (.goto 25, 3) := by decide +kernel
theorem dX11_gapOf_64 : decode cX11_gapOf 64 = .ok (.iload_n 2, 1) := by decide +kernel
theorem dX11_gapOf_65 : decode cX11_gapOf 65 = .ok (.iconst 2, 1) := by decide +kernel
theorem dX11_gapOf_66 : decode cX11_gapOf 66 = .ok (.if_icmp .ne 11, 3) := by decide +kernel
theorem dX11_gapOf_69 : decode cX11_gapOf 69 = .ok (.aload_n 0, 1) := by decide +kernel
theorem dX11_gapOf_70 : decode cX11_gapOf 70 = .ok (.iload_n 1, 1) := by decide +kernel
theorem dX11_gapOf_71 : decode cX11_gapOf 71 = .ok (.invokevirtual 270, 3) := by decide +kernel
theorem dX11_gapOf_74 : decode cX11_gapOf 74 = .ok (.goto 12, 3) := by decide +kernel
theorem dX11_gapOf_77 : decode cX11_gapOf 77 = .ok (.aload_n 0, 1) := by decide +kernel
theorem dX11_gapOf_78 : decode cX11_gapOf 78 = .ok (.aload_n 0, 1) := by decide +kernel
theorem dX11_gapOf_79 : decode cX11_gapOf 79 = .ok (.iload_n 1, 1) := by decide +kernel
theorem dX11_gapOf_80 : decode cX11_gapOf 80 = .ok (.invokevirtual 185, 3) := by decide +kernel
theorem dX11_gapOf_83 : decode cX11_gapOf 83 = .ok (.invokevirtual 273, 3) := by decide +kernel
theorem dX11_gapOf_86 : decode cX11_gapOf 86 = .ok (.ireturn, 1) := by decide +kernel
set_option maxRecDepth 20000 in
theorem ggX11_seenBy_X11_isSeen : GoodIn wsX11_seenBy wsX11_isSeen := goodIn_r _ [6, 1, 7, 8, 9, 5, 10, 11, 12, 13, 14, 15, 16, 17, 18, 19, 20, 21, 22, 23, 24, 25, 26, 27, 28, 29, 30, 31, 32, 33, 34, 35, 36, 37, 38, 39, 40, 41, 42, 43, 44, 45, 46, 47, 48, 49, 50, 51, 52, 53, 54, 55] (by decide +kernel) (by decide +kernel)
set_option maxRecDepth 20000 in
theorem gX11_seenBy_X11_isSeen : GoodIn wsX11_seenBy (wsV RX11 230 RX11 yX11_isSeen wsX11_isSeen) := goodIn_app (goodIn_of _ (by decide +kernel)) ggX11_seenBy_X11_isSeen
theorem dX11_seenBy_0 : decode cX11_seenBy 0 = .ok (.iconst 0, 1) := by decide +kernel
theorem dX11_seenBy_1 : decode cX11_seenBy 1 = .ok (.istore_n 2, 1) := by decide +kernel
theorem dX11_seenBy_2 : decode cX11_seenBy 2 = .ok (.iconst 0, 1) := by decide +kernel
theorem dX11_seenBy_3 : decode cX11_seenBy 3 = .ok (.istore_n 3, 1) := by decide +kernel
theorem dX11_seenBy_4 : decode cX11_seenBy 4 = .ok (.iload_n 3, 1) := by decide +kernel
theorem dX11_seenBy_5 : decode cX11_seenBy 5 = .ok (.aload_n 0, 1) := by decide +kernel
theorem dX11_seenBy_6 : decode cX11_seenBy 6 = .ok (.getfield 7, 3) := by decide +kernel
theorem dX11_seenBy_9 : decode cX11_seenBy 9 = .ok (.iconst 0, 1) := by decide +kernel
theorem dX11_seenBy_10 : decode cX11_seenBy 10 = .ok (.iaload, 1) := by decide +kernel
theorem dX11_seenBy_11 : decode cX11_seenBy 11 = .ok (.if_icmp .ge 28, 3) := by decide +kernel
theorem dX11_seenBy_14 : decode cX11_seenBy 14 = .ok (.iload_n 2, 1) := by decide +kernel
theorem dX11_seenBy_15 : decode cX11_seenBy 15 = .ok (.aload_n 0, 1) := by decide +kernel
theorem dX11_seenBy_16 : decode cX11_seenBy 16 = .ok (.iload_n 1, 1) := by decide +kernel
theorem dX11_seenBy_17 : decode cX11_seenBy 17 = .ok (.iload_n 3, 1) := by decide +kernel
theorem dX11_seenBy_18 : decode cX11_seenBy 18 = .ok (.invokevirtual 230, 3) := by decide +kernel
theorem dX11_seenBy_21 : decode cX11_seenBy 21 = .ok (.ifCond .eq 9, 3) := by decide +kernel
theorem dX11_seenBy_24 : decode cX11_seenBy 24 = .ok (.iconst 1, 1) := by decide +kernel
theorem dX11_seenBy_25 : decode cX11_seenBy 25 = .ok (.iload_n 3, 1) := by decide +kernel
theorem dX11_seenBy_26 : decode cX11_seenBy 26 = .ok (.ishl, 1) := by decide +kernel
theorem dX11_seenBy_27 : decode cX11_seenBy 27 = .ok (.goto 4, 3) := by decide +kernel
theorem dX11_seenBy_30 : decode cX11_seenBy 30 = .ok (.iconst 0, 1) := by decide +kernel
theorem dX11_seenBy_31 : decode cX11_seenBy 31 = .ok (.ior, 1) := by decide +kernel
theorem dX11_seenBy_32 : decode cX11_seenBy 32 = .ok (.istore_n 2, 1) := by decide +kernel
theorem dX11_seenBy_33 : decode cX11_seenBy 33 = .ok (.iinc 3 1, 3) := by decide +kernel
theorem dX11_seenBy_36 : decode cX11_seenBy 36 = .ok (.goto (-32), 3) := by decide +kernel
theorem dX11_seenBy_39 : decode cX11_seenBy 39 = .ok (.iload_n 2, 1) := by decide +kernel
theorem dX11_seenBy_40 : decode cX11_seenBy 40 = .ok (.ireturn, 1) := by decide +kernel
set_option maxRecDepth 20000 in
theorem ggX11_targetOf_X11_isTarget : GoodIn wsX11_targetOf wsX11_isTarget := goodIn_r _ [7, 2, 8, 9, 6, 10, 62, 63, 64, 65, 66, 67, 68, 69, 70, 71, 72, 73, 74, 75, 76, 77, 78, 79, 80, 81, 82, 83, 84, 85, 86, 87, 88, 89, 90, 91] (by decide +kernel) (by decide +kernel)
set_option maxRecDepth 20000 in
theorem gX11_targetOf_X11_isTarget : GoodIn wsX11_targetOf (wsV RX11 188 RX11 yX11_isTarget wsX11_isTarget) := goodIn_app (goodIn_of _ (by decide +kernel)) ggX11_targetOf_X11_isTarget
set_option maxRecDepth 20000 in
theorem ggX11_targetOf_X11_in : GoodIn wsX11_targetOf wsX11_in := goodIn_r _ [10] (by decide +kernel) (by decide +kernel)
set_option maxRecDepth 20000 in
theorem gX11_targetOf_X11_in : GoodIn wsX11_targetOf (va_wsS RX11 70 yX11_in wsX11_in) := goodIn_app (goodIn_of _ (by decide +kernel)) ggX11_targetOf_X11_in
set_option maxRecDepth 20000 in
theorem ggX11_targetOf_X11_laysLoud : GoodIn wsX11_targetOf wsX11_laysLoud := goodIn_r _ [14, 15, 2, 16, 17, 18, 6, 19, 20, 21, 22, 23, 24, 25, 26, 27, 28, 29, 30, 31, 32, 33, 34, 35, 36, 37, 38, 62, 63, 64, 65, 66, 67, 68, 69, 70, 71, 72, 73, 74, 75, 76, 77, 78, 79, 80, 81, 82, 83, 84, 85, 86, 87, 88, 89, 90, 91] (by decide +kernel) (by decide +kernel)
set_option maxRecDepth 20000 in
theorem gX11_targetOf_X11_laysLoud : GoodIn wsX11_targetOf (wsV RX11 245 RX11 yX11_laysLoud wsX11_laysLoud) := goodIn_app (goodIn_of _ (by decide +kernel)) ggX11_targetOf_X11_laysLoud
set_option maxRecDepth 20000 in
theorem ggX11_targetOf_X11_rangeOf : GoodIn wsX11_targetOf wsX11_rangeOf := goodIn_r _ [19, 20, 21, 22, 6, 23, 2, 62, 63, 64, 65, 66, 67, 68, 69, 70, 71, 72, 73, 74, 75, 76, 77, 78, 79, 80, 81, 82, 83, 84, 85, 86, 87, 88, 89, 90, 91] (by decide +kernel) (by decide +kernel)
set_option maxRecDepth 20000 in
theorem gX11_targetOf_X11_rangeOf : GoodIn wsX11_targetOf (wsV RX11 227 RX11 yX11_rangeOf wsX11_rangeOf) := goodIn_app (goodIn_of _ (by decide +kernel)) ggX11_targetOf_X11_rangeOf
set_option maxRecDepth 20000 in
theorem ggX11_targetOf_X11_of : GoodIn wsX11_targetOf wsX11_of := goodIn_r _ [23, 2, 62, 63, 64, 65, 66, 67, 68, 69, 70, 71, 72, 73, 74, 75, 76, 77, 78, 79, 80, 81, 82, 83, 84, 85, 86, 87, 88, 89, 90, 91] (by decide +kernel) (by decide +kernel)
set_option maxRecDepth 20000 in
theorem gX11_targetOf_X11_of : GoodIn wsX11_targetOf (wsV RX11 74 RX11 yX11_of wsX11_of) := goodIn_app (goodIn_of _ (by decide +kernel)) ggX11_targetOf_X11_of
set_option maxRecDepth 20000 in
theorem ggX11_targetOf_X11_seenBy : GoodIn wsX11_targetOf wsX11_seenBy := goodIn_r _ [42, 2, 28, 29, 30, 6, 31, 20, 21, 22, 23, 24, 25, 26, 27, 32, 33, 34, 35, 36, 37, 38, 16, 17, 18, 19, 62, 63, 64, 65, 66, 67, 68, 69, 70, 71, 72, 73, 74, 75, 76, 77, 78, 79, 80, 81, 82, 83, 84, 85, 86, 87, 88, 89, 90, 91] (by decide +kernel) (by decide +kernel)
set_option maxRecDepth 20000 in
theorem gX11_targetOf_X11_seenBy : GoodIn wsX11_targetOf (wsV RX11 276 RX11 yX11_seenBy wsX11_seenBy) := goodIn_app (goodIn_of _ (by decide +kernel)) ggX11_targetOf_X11_seenBy
set_option maxRecDepth 20000 in
theorem ggX11_targetOf_X11_blindBits : GoodIn wsX11_targetOf wsX11_blindBits := goodIn_r _ [46, 2, 24, 25, 26, 6, 27, 32, 33, 34, 35, 36, 37, 38, 62, 63, 64, 65, 66, 67, 68, 69, 70, 71, 72, 73, 74, 75, 76, 77, 78, 79, 80, 81, 82, 83, 84, 85, 86, 87, 88, 89, 90, 91] (by decide +kernel) (by decide +kernel)
set_option maxRecDepth 20000 in
theorem gX11_targetOf_X11_blindBits : GoodIn wsX11_targetOf (wsV RX11 218 RX11 yX11_blindBits wsX11_blindBits) := goodIn_app (goodIn_of _ (by decide +kernel)) ggX11_targetOf_X11_blindBits
set_option maxRecDepth 20000 in
theorem ggX11_targetOf_X11_isFound : GoodIn wsX11_targetOf wsX11_isFound := goodIn_r _ [50, 2, 51, 52, 53, 6, 54, 24, 25, 26, 27, 55, 56, 57, 58, 15, 59, 60, 61, 62, 63, 64, 65, 66, 67, 68, 69, 70, 71, 72, 73, 74, 75, 76, 77, 78, 79, 80, 81, 82, 83, 84, 85, 86, 87, 88, 89, 90, 91] (by decide +kernel) (by decide +kernel)
set_option maxRecDepth 20000 in
theorem gX11_targetOf_X11_isFound : GoodIn wsX11_targetOf (wsV RX11 239 RX11 yX11_isFound wsX11_isFound) := goodIn_app (goodIn_of _ (by decide +kernel)) ggX11_targetOf_X11_isFound
theorem dX11_targetOf_0 : decode cX11_targetOf 0 = .ok (.aload_n 0, 1) := by decide +kernel
theorem dX11_targetOf_1 : decode cX11_targetOf 1 = .ok (.aload_n 0, 1) := by decide +kernel
theorem dX11_targetOf_2 : decode cX11_targetOf 2 = .ok (.iload_n 1, 1) := by decide +kernel
theorem dX11_targetOf_3 : decode cX11_targetOf 3 = .ok (.invokevirtual 188, 3) := by decide +kernel
theorem dX11_targetOf_6 : decode cX11_targetOf 6 = .ok (.ifCond .eq 17, 3) := by decide +kernel
theorem dX11_targetOf_9 : decode cX11_targetOf 9 = .ok (.iload_n 2, 1) := by decide +kernel
theorem dX11_targetOf_10 : decode cX11_targetOf 10 = .ok (.iconst 0, 1) := by decide +kernel
theorem dX11_targetOf_11 : decode cX11_targetOf 11 = .ok (.bipush 6, 2) := by decide +kernel
theorem dX11_targetOf_13 : decode cX11_targetOf 13 = .ok (.invokestatic 70, 3) := by decide +kernel
theorem dX11_targetOf_16 : decode cX11_targetOf 16 = .ok (.ifCond .eq 7, 3) := by decide +kernel
theorem dX11_targetOf_19 : decode cX11_targetOf 19 = .ok (.iconst 0, 1) := by decide +kernel
theorem dX11_targetOf_20 : decode cX11_targetOf 20 = .ok (.goto 4, 3) := by decide +kernel
theorem dX11_targetOf_23 : decode cX11_targetOf 23 = .ok (.iconst 1, 1) := by decide +kernel
theorem dX11_targetOf_24 : decode cX11_targetOf 24 = .ok (.putfield 66, 3) := by decide +kernel
theorem dX11_targetOf_27 : decode cX11_targetOf 27 = .ok (.aload_n 0, 1) := by decide +kernel
theorem dX11_targetOf_28 : decode cX11_targetOf 28 = .ok (.getfield 66, 3) := by decide +kernel
theorem dX11_targetOf_31 : decode cX11_targetOf 31 = .ok (.ifCond .le 5, 3) := by decide +kernel
theorem dX11_targetOf_34 : decode cX11_targetOf 34 = .ok (.iconst 0, 1) := by decide +kernel
theorem dX11_targetOf_35 : decode cX11_targetOf 35 = .ok (.ireturn, 1) := by decide +kernel
theorem dX11_targetOf_36 : decode cX11_targetOf 36 = .ok (.aload_n 0, 1) := by decide +kernel
theorem dX11_targetOf_37 : decode cX11_targetOf 37 = .ok (.invokevirtual 245, 3) := by decide +kernel
theorem dX11_targetOf_40 : decode cX11_targetOf 40 = .ok (.iload_n 2, 1) := by decide +kernel
theorem dX11_targetOf_41 : decode cX11_targetOf 41 = .ok (.tableswitch 71 0 5 #[39, 45, 45, 45, 54, 60], 39) := by decide +kernel
theorem dX11_targetOf_80 : decode cX11_targetOf 80 = .ok (.aload_n 0, 1) := by decide +kernel
theorem dX11_targetOf_81 : decode cX11_targetOf 81 = .ok (.iload_n 1, 1) := by decide +kernel
theorem dX11_targetOf_82 : decode cX11_targetOf 82 = .ok (.invokevirtual 227, 3) := by decide +kernel
theorem dX11_targetOf_85 : decode cX11_targetOf 85 = .ok (.ireturn, 1) := by decide +kernel
theorem dX11_targetOf_86 : decode cX11_targetOf 86 = .ok (.aload_n 0, 1) := by decide +kernel
theorem dX11_targetOf_87 : decode cX11_targetOf 87 = .ok (.iload_n 1, 1) := by decide +kernel
theorem dX11_targetOf_88 : decode cX11_targetOf 88 = .ok (.iload_n 2, 1) := by decide +kernel
theorem dX11_targetOf_89 : decode cX11_targetOf 89 = .ok (.iconst 1, 1) := by decide +kernel
theorem dX11_targetOf_90 : decode cX11_targetOf 90 = .ok (.isub, 1) := by decide +kernel
theorem dX11_targetOf_91 : decode cX11_targetOf 91 = .ok (.invokevirtual 74, 3) := by decide +kernel
theorem dX11_targetOf_94 : decode cX11_targetOf 94 = .ok (.ireturn, 1) := by decide +kernel
theorem dX11_targetOf_95 : decode cX11_targetOf 95 = .ok (.aload_n 0, 1) := by decide +kernel
theorem dX11_targetOf_96 : decode cX11_targetOf 96 = .ok (.iload_n 1, 1) := by decide +kernel
theorem dX11_targetOf_97 : decode cX11_targetOf 97 = .ok (.invokevirtual 276, 3) := by decide +kernel
theorem dX11_targetOf_100 : decode cX11_targetOf 100 = .ok (.ireturn, 1) := by decide +kernel
theorem dX11_targetOf_101 : decode cX11_targetOf 101 = .ok (.aload_n 0, 1) := by decide +kernel
theorem dX11_targetOf_102 : decode cX11_targetOf 102 = .ok (.aload_n 0, 1) := by decide +kernel
theorem dX11_targetOf_103 : decode cX11_targetOf 103 = .ok (.iload_n 1, 1) := by decide +kernel
theorem dX11_targetOf_104 : decode cX11_targetOf 104 = .ok (.iconst 1, 1) := by decide +kernel
theorem dX11_targetOf_105 : decode cX11_targetOf 105 = .ok (.invokevirtual 74, 3) := by decide +kernel
theorem dX11_targetOf_108 : decode cX11_targetOf 108 = .ok (.invokevirtual 218, 3) := by decide +kernel
theorem dX11_targetOf_111 : decode cX11_targetOf 111 = .ok (.ireturn, 1) := by decide +kernel
theorem dX11_targetOf_112 : decode cX11_targetOf 112 = .ok (.aload_n 0, 1) := by decide +kernel
theorem dX11_targetOf_113 : decode cX11_targetOf 113 = .ok (.iload_n 1, 1) := by decide +kernel
theorem dX11_targetOf_114 : decode cX11_targetOf 114 = .ok (.invokevirtual 227, 3) := by decide +kernel
theorem dX11_targetOf_117 : decode cX11_targetOf 117 = .ok (.aload_n 0, 1) := by decide +kernel
theorem dX11_targetOf_118 : decode cX11_targetOf 118 = .ok (.getfield 7, 3) := by decide +kernel
theorem dX11_targetOf_121 : decode cX11_targetOf 121 = .ok (.bipush 9, 2) := by decide +kernel
theorem dX11_targetOf_123 : decode cX11_targetOf 123 = .ok (.iaload, 1) := by decide +kernel
theorem dX11_targetOf_124 : decode cX11_targetOf 124 = .ok (.if_icmp .lt 7, 3) := by decide +kernel
theorem dX11_targetOf_127 : decode cX11_targetOf 127 = .ok (.iconst 2, 1) := by decide +kernel
theorem dX11_targetOf_128 : decode cX11_targetOf 128 = .ok (.goto 20, 3) := by decide +kernel
theorem dX11_targetOf_131 : decode cX11_targetOf 131 = .ok (.aload_n 0, 1) := by decide +kernel
theorem dX11_targetOf_132 : decode cX11_targetOf 132 = .ok (.aload_n 0, 1) := by decide +kernel
theorem dX11_targetOf_133 : decode cX11_targetOf 133 = .ok (.iload_n 1, 1) := by decide +kernel
theorem dX11_targetOf_134 : decode cX11_targetOf 134 = .ok (.invokevirtual 227, 3) := by decide +kernel
theorem dX11_targetOf_137 : decode cX11_targetOf 137 = .ok (.invokevirtual 239, 3) := by decide +kernel
theorem dX11_targetOf_140 : decode cX11_targetOf 140 = .ok (.ifCond .eq 7, 3) := by decide +kernel
theorem dX11_targetOf_143 : decode cX11_targetOf 143 = .ok (.iconst 1, 1) := by decide +kernel
theorem dX11_targetOf_144 : decode cX11_targetOf 144 = .ok (.goto 4, 3) := by decide +kernel
theorem dX11_targetOf_147 : decode cX11_targetOf 147 = .ok (.iconst 0, 1) := by decide +kernel
theorem dX11_targetOf_148 : decode cX11_targetOf 148 = .ok (.ireturn, 1) := by decide +kernel
set_option maxRecDepth 20000 in
theorem ggX11_blind_X11_in : GoodIn wsX11_blind wsX11_in := goodIn_r _ [5] (by decide +kernel) (by decide +kernel)
set_option maxRecDepth 20000 in
theorem gX11_blind_X11_in : GoodIn wsX11_blind (va_wsS RX11 70 yX11_in wsX11_in) := goodIn_app (goodIn_of _ (by decide +kernel)) ggX11_blind_X11_in
set_option maxRecDepth 20000 in
theorem ggX11_blind_X11_blindBits : GoodIn wsX11_blind wsX11_blindBits := goodIn_r _ [9, 10, 11, 12, 13, 4, 14, 15, 16, 17, 18, 19, 20, 21, 22, 23, 24, 25, 26, 27, 28, 29, 30, 31, 32, 33, 34, 35, 36, 37, 38, 39, 40, 41, 42, 43, 44, 45, 46, 47, 48, 49, 50, 51] (by decide +kernel) (by decide +kernel)
set_option maxRecDepth 20000 in
theorem gX11_blind_X11_blindBits : GoodIn wsX11_blind (wsV RX11 218 RX11 yX11_blindBits wsX11_blindBits) := goodIn_app (goodIn_of _ (by decide +kernel)) ggX11_blind_X11_blindBits
theorem dX11_blind_0 : decode cX11_blind 0 = .ok (.aload_n 0, 1) := by decide +kernel
theorem dX11_blind_1 : decode cX11_blind 1 = .ok (.iconst 0, 1) := by decide +kernel
theorem dX11_blind_2 : decode cX11_blind 2 = .ok (.putfield 66, 3) := by decide +kernel
theorem dX11_blind_5 : decode cX11_blind 5 = .ok (.iload_n 1, 1) := by decide +kernel
theorem dX11_blind_6 : decode cX11_blind 6 = .ok (.sipush (-500), 3) := by decide +kernel
theorem dX11_blind_9 : decode cX11_blind 9 = .ok (.sipush 500, 3) := by decide +kernel
theorem dX11_blind_12 : decode cX11_blind 12 = .ok (.invokestatic 70, 3) := by decide +kernel
theorem dX11_blind_15 : decode cX11_blind 15 = .ok (.ifCond .eq 11, 3) := by decide +kernel
theorem dX11_blind_18 : decode cX11_blind 18 = .ok (.aload_n 0, 1) := by decide +kernel
theorem dX11_blind_19 : decode cX11_blind 19 = .ok (.iload_n 1, 1) := by decide +kernel
theorem dX11_blind_20 : decode cX11_blind 20 = .ok (.invokevirtual 218, 3) := by decide +kernel
theorem dX11_blind_23 : decode cX11_blind 23 = .ok (.goto 4, 3) := by decide +kernel
theorem dX11_blind_26 : decode cX11_blind 26 = .ok (.iconst (-1), 1) := by decide +kernel
theorem dX11_blind_27 : decode cX11_blind 27 = .ok (.ireturn, 1) := by decide +kernel
set_option maxRecDepth 20000 in
theorem ggX11_doppler_X11_in : GoodIn wsX11_doppler wsX11_in := goodIn_r _ [6] (by decide +kernel) (by decide +kernel)
set_option maxRecDepth 20000 in
theorem gX11_doppler_X11_in : GoodIn wsX11_doppler (va_wsS RX11 70 yX11_in wsX11_in) := goodIn_app (goodIn_of _ (by decide +kernel)) ggX11_doppler_X11_in
set_option maxRecDepth 20000 in
theorem ggX11_doppler_X11_isGap : GoodIn wsX11_doppler wsX11_isGap := goodIn_r _ [10, 2, 3, 4, 5, 6, 18, 19, 20, 21, 22, 23, 24, 25, 26, 27, 28, 29, 30, 31, 32, 33, 34, 35, 36, 37, 38, 39, 40, 41, 42, 43, 44, 45, 46, 47] (by decide +kernel) (by decide +kernel)
set_option maxRecDepth 20000 in
theorem gX11_doppler_X11_isGap : GoodIn wsX11_doppler (wsV RX11 267 RX11 yX11_isGap wsX11_isGap) := goodIn_app (goodIn_of _ (by decide +kernel)) ggX11_doppler_X11_isGap
set_option maxRecDepth 20000 in
theorem ggX11_doppler_X11_gapAt : GoodIn wsX11_doppler wsX11_gapAt := goodIn_r _ [14, 2, 18, 19, 20, 21, 22, 23, 24, 25, 26, 27, 28, 29, 30, 31, 32, 33, 34, 35, 36, 37, 38, 39, 40, 41, 42, 43, 44, 45, 46, 47] (by decide +kernel) (by decide +kernel)
set_option maxRecDepth 20000 in
theorem gX11_doppler_X11_gapAt : GoodIn wsX11_doppler (wsV RX11 185 RX11 yX11_gapAt wsX11_gapAt) := goodIn_app (goodIn_of _ (by decide +kernel)) ggX11_doppler_X11_gapAt
set_option maxRecDepth 20000 in
theorem ggX11_doppler_X11_rest : GoodIn wsX11_doppler wsX11_rest := goodIn_r _ [17] (by decide +kernel) (by decide +kernel)
set_option maxRecDepth 20000 in
theorem gX11_doppler_X11_rest : GoodIn wsX11_doppler (va_wsS RX11 212 yX11_rest wsX11_rest) := goodIn_app (goodIn_of _ (by decide +kernel)) ggX11_doppler_X11_rest
theorem dX11_doppler_0 : decode cX11_doppler 0 = .ok (.aload_n 0, 1) := by decide +kernel
theorem dX11_doppler_1 : decode cX11_doppler 1 = .ok (.iconst 0, 1) := by decide +kernel
theorem dX11_doppler_2 : decode cX11_doppler 2 = .ok (.putfield 66, 3) := by decide +kernel
theorem dX11_doppler_5 : decode cX11_doppler 5 = .ok (.iload_n 1, 1) := by decide +kernel
theorem dX11_doppler_6 : decode cX11_doppler 6 = .ok (.sipush (-500), 3) := by decide +kernel
theorem dX11_doppler_9 : decode cX11_doppler 9 = .ok (.sipush 500, 3) := by decide +kernel
theorem dX11_doppler_12 : decode cX11_doppler 12 = .ok (.invokestatic 70, 3) := by decide +kernel
theorem dX11_doppler_15 : decode cX11_doppler 15 = .ok (.ifCond .eq 31, 3) := by decide +kernel
theorem dX11_doppler_18 : decode cX11_doppler 18 = .ok (.aload_n 0, 1) := by decide +kernel
theorem dX11_doppler_19 : decode cX11_doppler 19 = .ok (.iload_n 2, 1) := by decide +kernel
theorem dX11_doppler_20 : decode cX11_doppler 20 = .ok (.invokevirtual 267, 3) := by decide +kernel
theorem dX11_doppler_23 : decode cX11_doppler 23 = .ok (.ifCond .eq 23, 3) := by decide +kernel
theorem dX11_doppler_26 : decode cX11_doppler 26 = .ok (.iload_n 1, 1) := by decide +kernel
theorem dX11_doppler_27 : decode cX11_doppler 27 = .ok (.aload_n 0, 1) := by decide +kernel
theorem dX11_doppler_28 : decode cX11_doppler 28 = .ok (.iload_n 2, 1) := by decide +kernel
theorem dX11_doppler_29 : decode cX11_doppler 29 = .ok (.invokevirtual 185, 3) := by decide +kernel
theorem dX11_doppler_32 : decode cX11_doppler 32 = .ok (.imul, 1) := by decide +kernel
theorem dX11_doppler_33 : decode cX11_doppler 33 = .ok (.aload_n 0, 1) := by decide +kernel
theorem dX11_doppler_34 : decode cX11_doppler 34 = .ok (.getfield 7, 3) := by decide +kernel
theorem dX11_doppler_37 : decode cX11_doppler 37 = .ok (.bipush 6, 2) := by decide +kernel
theorem dX11_doppler_39 : decode cX11_doppler 39 = .ok (.iaload, 1) := by decide +kernel
theorem dX11_doppler_40 : decode cX11_doppler 40 = .ok (.invokestatic 212, 3) := by decide +kernel
theorem dX11_doppler_43 : decode cX11_doppler 43 = .ok (.goto 4, 3) := by decide +kernel
theorem dX11_doppler_46 : decode cX11_doppler 46 = .ok (.iconst (-1), 1) := by decide +kernel
theorem dX11_doppler_47 : decode cX11_doppler 47 = .ok (.ireturn, 1) := by decide +kernel
set_option maxRecDepth 20000 in
theorem ggX11_dark_X11_isDark : GoodIn wsX11_dark wsX11_isDark := goodIn_r _ [7, 2, 8, 9, 10, 6, 11, 12, 13, 14, 15, 16, 17, 18, 19, 20, 21, 22, 23, 24, 25, 26, 27, 28, 29, 30, 31, 32, 33, 34, 35, 36, 37, 38, 39, 40, 41, 42, 43, 44, 45, 46, 47, 48, 49, 50, 51, 52, 53, 54, 55] (by decide +kernel) (by decide +kernel)
set_option maxRecDepth 20000 in
theorem gX11_dark_X11_isDark : GoodIn wsX11_dark (wsV RX11 224 RX11 yX11_isDark wsX11_isDark) := goodIn_app (goodIn_of _ (by decide +kernel)) ggX11_dark_X11_isDark
theorem dX11_dark_0 : decode cX11_dark 0 = .ok (.aload_n 0, 1) := by decide +kernel
theorem dX11_dark_1 : decode cX11_dark 1 = .ok (.iconst 0, 1) := by decide +kernel
theorem dX11_dark_2 : decode cX11_dark 2 = .ok (.putfield 66, 3) := by decide +kernel
theorem dX11_dark_5 : decode cX11_dark 5 = .ok (.iconst 0, 1) := by decide +kernel
theorem dX11_dark_6 : decode cX11_dark 6 = .ok (.istore_n 2, 1) := by decide +kernel
theorem dX11_dark_7 : decode cX11_dark 7 = .ok (.iconst 1, 1) := by decide +kernel
theorem dX11_dark_8 : decode cX11_dark 8 = .ok (.istore_n 3, 1) := by decide +kernel
theorem dX11_dark_9 : decode cX11_dark 9 = .ok (.iload_n 3, 1) := by decide +kernel
theorem dX11_dark_10 : decode cX11_dark 10 = .ok (.aload_n 0, 1) := by decide +kernel
theorem dX11_dark_11 : decode cX11_dark 11 = .ok (.getfield 7, 3) := by decide +kernel
theorem dX11_dark_14 : decode cX11_dark 14 = .ok (.bipush 11, 2) := by decide +kernel
theorem dX11_dark_16 : decode cX11_dark 16 = .ok (.iaload, 1) := by decide +kernel
theorem dX11_dark_17 : decode cX11_dark 17 = .ok (.if_icmp .gt 27, 3) := by decide +kernel
theorem dX11_dark_20 : decode cX11_dark 20 = .ok (.aload_n 0, 1) := by decide +kernel
theorem dX11_dark_21 : decode cX11_dark 21 = .ok (.iload_n 3, 1) := by decide +kernel
theorem dX11_dark_22 : decode cX11_dark 22 = .ok (.invokevirtual 224, 3) := by decide +kernel
theorem dX11_dark_25 : decode cX11_dark 25 = .ok (.ifCond .eq 13, 3) := by decide +kernel
theorem dX11_dark_28 : decode cX11_dark 28 = .ok (.iload_n 2, 1) := by decide +kernel
theorem dX11_dark_29 : decode cX11_dark 29 = .ok (.iload_n 1, 1) := by decide +kernel
theorem dX11_dark_30 : decode cX11_dark 30 = .ok (.if_icmp .ne 5, 3) := by decide +kernel
theorem dX11_dark_33 : decode cX11_dark 33 = .ok (.iload_n 3, 1) := by decide +kernel
theorem dX11_dark_34 : decode cX11_dark 34 = .ok (.ireturn, 1) := by decide +kernel
theorem dX11_dark_35 : decode cX11_dark 35 = .ok (.iinc 2 1, 3) := by decide +kernel
theorem dX11_dark_38 : decode cX11_dark 38 = .ok (.iinc 3 1, 3) := by decide +kernel
theorem dX11_dark_41 : decode cX11_dark 41 = .ok (.goto (-32), 3) := by decide +kernel
theorem dX11_dark_44 : decode cX11_dark 44 = .ok (.iconst (-1), 1) := by decide +kernel
theorem dX11_dark_45 : decode cX11_dark 45 = .ok (.ireturn, 1) := by decide +kernel
set_option maxRecDepth 20000 in
theorem ggX11_period_X11_gapAt : GoodIn wsX11_period wsX11_gapAt := goodIn_r _ [7, 2, 8, 9, 10, 11, 12, 13, 14, 15, 16, 17, 18, 19, 20, 21, 22, 23, 24, 25, 26, 27, 28, 29, 30, 31, 32, 33, 34, 35, 36, 37] (by decide +kernel) (by decide +kernel)
set_option maxRecDepth 20000 in
theorem gX11_period_X11_gapAt : GoodIn wsX11_period (wsV RX11 185 RX11 yX11_gapAt wsX11_gapAt) := goodIn_app (goodIn_of _ (by decide +kernel)) ggX11_period_X11_gapAt
theorem dX11_period_0 : decode cX11_period 0 = .ok (.aload_n 0, 1) := by decide +kernel
theorem dX11_period_1 : decode cX11_period 1 = .ok (.iconst 0, 1) := by decide +kernel
theorem dX11_period_2 : decode cX11_period 2 = .ok (.putfield 66, 3) := by decide +kernel
theorem dX11_period_5 : decode cX11_period 5 = .ok (.iconst 0, 1) := by decide +kernel
theorem dX11_period_6 : decode cX11_period 6 = .ok (.istore_n 1, 1) := by decide +kernel
theorem dX11_period_7 : decode cX11_period 7 = .ok (.iconst 0, 1) := by decide +kernel
theorem dX11_period_8 : decode cX11_period 8 = .ok (.istore_n 2, 1) := by decide +kernel
theorem dX11_period_9 : decode cX11_period 9 = .ok (.iload_n 2, 1) := by decide +kernel
theorem dX11_period_10 : decode cX11_period 10 = .ok (.ifCond .ne 57, 3) := by decide +kernel
theorem dX11_period_13 : decode cX11_period 13 = .ok (.iinc 1 1, 3) := by decide +kernel
theorem dX11_period_16 : decode cX11_period 16 = .ok (.iconst 1, 1) := by decide +kernel
theorem dX11_period_17 : decode cX11_period 17 = .ok (.istore_n 2, 1) := by decide +kernel
theorem dX11_period_18 : decode cX11_period 18 = .ok (.iconst 0, 1) := by decide +kernel
theorem dX11_period_19 : decode cX11_period 19 = .ok (.istore_n 3, 1) := by decide +kernel
theorem dX11_period_20 : decode cX11_period 20 = .ok (.iload_n 3, 1) := by decide +kernel
theorem dX11_period_21 : decode cX11_period 21 = .ok (.aload_n 0, 1) := by decide +kernel
theorem dX11_period_22 : decode cX11_period 22 = .ok (.getfield 7, 3) := by decide +kernel
theorem dX11_period_25 : decode cX11_period 25 = .ok (.iconst 0, 1) := by decide +kernel
theorem dX11_period_26 : decode cX11_period 26 = .ok (.iaload, 1) := by decide +kernel
theorem dX11_period_27 : decode cX11_period 27 = .ok (.if_icmp .ge 37, 3) := by decide +kernel
theorem dX11_period_30 : decode cX11_period 30 = .ok (.iload_n 2, 1) := by decide +kernel
theorem dX11_period_31 : decode cX11_period 31 = .ok (.ifCond .eq 25, 3) := by decide +kernel
theorem dX11_period_34 : decode cX11_period 34 = .ok (.iload_n 1, 1) := by decide +kernel
theorem dX11_period_35 : decode cX11_period 35 = .ok (.aload_n 0, 1) := by decide +kernel
theorem dX11_period_36 : decode cX11_period 36 = .ok (.iload_n 3, 1) := by decide +kernel
theorem dX11_period_37 : decode cX11_period 37 = .ok (.invokevirtual 185, 3) := by decide +kernel
theorem dX11_period_40 : decode cX11_period 40 = .ok (.imul, 1) := by decide +kernel
theorem dX11_period_41 : decode cX11_period 41 = .ok (.aload_n 0, 1) := by decide +kernel
theorem dX11_period_42 : decode cX11_period 42 = .ok (.getfield 7, 3) := by decide +kernel
theorem dX11_period_45 : decode cX11_period 45 = .ok (.bipush 6, 2) := by decide +kernel
theorem dX11_period_47 : decode cX11_period 47 = .ok (.iaload, 1) := by decide +kernel
theorem dX11_period_48 : decode cX11_period 48 = .ok (.irem, 1) := by decide +kernel
theorem dX11_period_49 : decode cX11_period 49 = .ok (.ifCond .ne 7, 3) := by decide +kernel
theorem dX11_period_52 : decode cX11_period 52 = .ok (.iconst 1, 1) := by decide +kernel
theorem dX11_period_53 : decode cX11_period 53 = .ok (.goto 4, 3) := by decide +kernel
theorem dX11_period_56 : decode cX11_period 56 = .ok (.iconst 0, 1) := by decide +kernel
theorem dX11_period_57 : decode cX11_period 57 = .ok (.istore_n 2, 1) := by decide +kernel
theorem dX11_period_58 : decode cX11_period 58 = .ok (.iinc 3 1, 3) := by decide +kernel
theorem dX11_period_61 : decode cX11_period 61 = .ok (.goto (-41), 3) := by decide +kernel
theorem dX11_period_64 : decode cX11_period 64 = .ok (.goto (-55), 3) := by decide +kernel
theorem dX11_period_67 : decode cX11_period 67 = .ok (.iload_n 1, 1) := by decide +kernel
theorem dX11_period_68 : decode cX11_period 68 = .ok (.ireturn, 1) := by decide +kernel
set_option maxRecDepth 20000 in
theorem ggX11_reachOf_X11_gapAt : GoodIn wsX11_reachOf wsX11_gapAt := goodIn_r _ [6, 1, 10, 11, 12, 13, 14, 15, 16, 17, 18, 19, 20, 21, 22, 23, 24, 25, 26, 27, 28, 29, 30, 31, 32, 33, 34, 35, 36, 37, 38, 39] (by decide +kernel) (by decide +kernel)
set_option maxRecDepth 20000 in
theorem gX11_reachOf_X11_gapAt : GoodIn wsX11_reachOf (wsV RX11 185 RX11 yX11_gapAt wsX11_gapAt) := goodIn_app (goodIn_of _ (by decide +kernel)) ggX11_reachOf_X11_gapAt
set_option maxRecDepth 20000 in
theorem ggX11_reachOf_X11_measure : GoodIn wsX11_reachOf wsX11_measure := goodIn_r _ [9] (by decide +kernel) (by decide +kernel)
set_option maxRecDepth 20000 in
theorem gX11_reachOf_X11_measure : GoodIn wsX11_reachOf (va_wsS RX11 279 yX11_measure wsX11_measure) := goodIn_app (goodIn_of _ (by decide +kernel)) ggX11_reachOf_X11_measure
theorem dX11_reachOf_0 : decode cX11_reachOf 0 = .ok (.lconst 1, 1) := by decide +kernel
theorem dX11_reachOf_1 : decode cX11_reachOf 1 = .ok (.lstore_n 2, 1) := by decide +kernel
theorem dX11_reachOf_2 : decode cX11_reachOf 2 = .ok (.iconst 0, 1) := by decide +kernel
theorem dX11_reachOf_3 : decode cX11_reachOf 3 = .ok (.istore 4, 2) := by decide +kernel
theorem dX11_reachOf_5 : decode cX11_reachOf 5 = .ok (.iload 4, 2) := by decide +kernel
theorem dX11_reachOf_7 : decode cX11_reachOf 7 = .ok (.aload_n 0, 1) := by decide +kernel
theorem dX11_reachOf_8 : decode cX11_reachOf 8 = .ok (.getfield 7, 3) := by decide +kernel
theorem dX11_reachOf_11 : decode cX11_reachOf 11 = .ok (.iconst 0, 1) := by decide +kernel
theorem dX11_reachOf_12 : decode cX11_reachOf 12 = .ok (.iaload, 1) := by decide +kernel
theorem dX11_reachOf_13 : decode cX11_reachOf 13 = .ok (.if_icmp .ge 45, 3) := by decide +kernel
theorem dX11_reachOf_16 : decode cX11_reachOf 16 = .ok (.iload_n 1, 1) := by decide +kernel
theorem dX11_reachOf_17 : decode cX11_reachOf 17 = .ok (.iload 4, 2) := by decide +kernel
theorem dX11_reachOf_19 : decode cX11_reachOf 19 = .ok (.ishr, 1) := by decide +kernel
theorem dX11_reachOf_20 : decode cX11_reachOf 20 = .ok (.iconst 1, 1) := by decide +kernel
theorem dX11_reachOf_21 : decode cX11_reachOf 21 = .ok (.iand, 1) := by decide +kernel
theorem dX11_reachOf_22 : decode cX11_reachOf 22 = .ok (.iconst 1, 1) := by decide +kernel
theorem dX11_reachOf_23 : decode cX11_reachOf 23 = .ok (.if_icmp .ne 27, 3) := by decide +kernel
theorem dX11_reachOf_26 : decode cX11_reachOf 26 = .ok (.lload_n 2, 1) := by decide +kernel
theorem dX11_reachOf_27 : decode cX11_reachOf 27 = .ok (.lload_n 2, 1) := by decide +kernel
theorem dX11_reachOf_28 : decode cX11_reachOf 28 = .ok (.aload_n 0, 1) := by decide +kernel
theorem dX11_reachOf_29 : decode cX11_reachOf 29 = .ok (.iload 4, 2) := by decide +kernel
theorem dX11_reachOf_31 : decode cX11_reachOf 31 = .ok (.invokevirtual 185, 3) := by decide +kernel
theorem dX11_reachOf_34 : decode cX11_reachOf 34 = .ok (.i2l, 1) := by decide +kernel
theorem dX11_reachOf_35 : decode cX11_reachOf 35 = .ok (.invokestatic 279, 3) := by decide +kernel
theorem dX11_reachOf_38 : decode cX11_reachOf 38 = .ok (.ldiv, 1) := by decide +kernel
theorem dX11_reachOf_39 : decode cX11_reachOf 39 = .ok (.aload_n 0, 1) := by decide +kernel
theorem dX11_reachOf_40 : decode cX11_reachOf 40 = .ok (.iload 4, 2) := by decide +kernel
theorem dX11_reachOf_42 : decode cX11_reachOf 42 = .ok (.invokevirtual 185, 3) := by decide +kernel
theorem dX11_reachOf_45 : decode cX11_reachOf 45 = .ok (.i2l, 1) := by decide +kernel
theorem dX11_reachOf_46 : decode cX11_reachOf 46 = .ok (.lmul, 1) := by decide +kernel
theorem dX11_reachOf_47 : decode cX11_reachOf 47 = .ok (.goto 4, 3) := by decide +kernel
theorem dX11_reachOf_50 : decode cX11_reachOf 50 = .ok (.lload_n 2, 1) := by decide +kernel
theorem dX11_reachOf_51 : decode cX11_reachOf 51 = .ok (.lstore_n 2, 1) := by decide +kernel
theorem dX11_reachOf_52 : decode cX11_reachOf 52 = .ok (.iinc 4 1, 3) := by decide +kernel
theorem dX11_reachOf_55 : decode cX11_reachOf 55 = .ok (.goto (-50), 3) := by decide +kernel
theorem dX11_reachOf_58 : decode cX11_reachOf 58 = .ok (.lload_n 2, 1) := by decide +kernel
theorem dX11_reachOf_59 : decode cX11_reachOf 59 = .ok (.lreturn, 1) := by decide +kernel
set_option maxRecDepth 20000 in
theorem ggX11_reach_X11_in : GoodIn wsX11_reach wsX11_in := goodIn_r _ [7] (by decide +kernel) (by decide +kernel)
set_option maxRecDepth 20000 in
theorem gX11_reach_X11_in : GoodIn wsX11_reach (va_wsS RX11 70 yX11_in wsX11_in) := goodIn_app (goodIn_of _ (by decide +kernel)) ggX11_reach_X11_in
set_option maxRecDepth 20000 in
theorem ggX11_reach_X11_reachOf : GoodIn wsX11_reach wsX11_reachOf := goodIn_r _ [11, 2, 12, 13, 14, 6, 15, 16, 17, 18, 19, 20, 21, 22, 23, 24, 25, 26, 27, 28, 29, 30, 31, 32, 33, 34, 35, 36, 37, 38, 39, 40, 41, 42, 43, 44, 45, 46, 47, 48] (by decide +kernel) (by decide +kernel)
set_option maxRecDepth 20000 in
theorem gX11_reach_X11_reachOf : GoodIn wsX11_reach (wsV RX11 284 RX11 yX11_reachOf wsX11_reachOf) := goodIn_app (goodIn_of _ (by decide +kernel)) ggX11_reach_X11_reachOf
theorem dX11_reach_0 : decode cX11_reach 0 = .ok (.aload_n 0, 1) := by decide +kernel
theorem dX11_reach_1 : decode cX11_reach 1 = .ok (.iconst 0, 1) := by decide +kernel
theorem dX11_reach_2 : decode cX11_reach 2 = .ok (.putfield 66, 3) := by decide +kernel
theorem dX11_reach_5 : decode cX11_reach 5 = .ok (.iload_n 1, 1) := by decide +kernel
theorem dX11_reach_6 : decode cX11_reach 6 = .ok (.iconst 0, 1) := by decide +kernel
theorem dX11_reach_7 : decode cX11_reach 7 = .ok (.iconst 1, 1) := by decide +kernel
theorem dX11_reach_8 : decode cX11_reach 8 = .ok (.aload_n 0, 1) := by decide +kernel
theorem dX11_reach_9 : decode cX11_reach 9 = .ok (.getfield 7, 3) := by decide +kernel
theorem dX11_reach_12 : decode cX11_reach 12 = .ok (.iconst 0, 1) := by decide +kernel
theorem dX11_reach_13 : decode cX11_reach 13 = .ok (.iaload, 1) := by decide +kernel
theorem dX11_reach_14 : decode cX11_reach 14 = .ok (.ishl, 1) := by decide +kernel
theorem dX11_reach_15 : decode cX11_reach 15 = .ok (.iconst 1, 1) := by decide +kernel
theorem dX11_reach_16 : decode cX11_reach 16 = .ok (.isub, 1) := by decide +kernel
theorem dX11_reach_17 : decode cX11_reach 17 = .ok (.invokestatic 70, 3) := by decide +kernel
theorem dX11_reach_20 : decode cX11_reach 20 = .ok (.ifCond .ne 7, 3) := by decide +kernel
theorem dX11_reach_23 : decode cX11_reach 23 = .ok (.ldc_w 283, 3) := by decide +kernel
theorem dX11_reach_26 : decode cX11_reach 26 = .ok (.ireturn, 1) := by decide +kernel
theorem dX11_reach_27 : decode cX11_reach 27 = .ok (.aload_n 0, 1) := by decide +kernel
theorem dX11_reach_28 : decode cX11_reach 28 = .ok (.iload_n 1, 1) := by decide +kernel
theorem dX11_reach_29 : decode cX11_reach 29 = .ok (.invokevirtual 284, 3) := by decide +kernel
theorem dX11_reach_32 : decode cX11_reach 32 = .ok (.iload_n 2, 1) := by decide +kernel
theorem dX11_reach_33 : decode cX11_reach 33 = .ok (.i2l, 1) := by decide +kernel
theorem dX11_reach_34 : decode cX11_reach 34 = .ok (.lmul, 1) := by decide +kernel
theorem dX11_reach_35 : decode cX11_reach 35 = .ok (.lstore_n 3, 1) := by decide +kernel
theorem dX11_reach_36 : decode cX11_reach 36 = .ok (.lload_n 3, 1) := by decide +kernel
theorem dX11_reach_37 : decode cX11_reach 37 = .ok (.lload_n 3, 1) := by decide +kernel
theorem dX11_reach_38 : decode cX11_reach 38 = .ok (.l2i, 1) := by decide +kernel
theorem dX11_reach_39 : decode cX11_reach 39 = .ok (.i2l, 1) := by decide +kernel
theorem dX11_reach_40 : decode cX11_reach 40 = .ok (.lcmp, 1) := by decide +kernel
theorem dX11_reach_41 : decode cX11_reach 41 = .ok (.ifCond .ne 8, 3) := by decide +kernel
theorem dX11_reach_44 : decode cX11_reach 44 = .ok (.lload_n 3, 1) := by decide +kernel
theorem dX11_reach_45 : decode cX11_reach 45 = .ok (.l2i, 1) := by decide +kernel
theorem dX11_reach_46 : decode cX11_reach 46 = .ok (.goto 6, 3) := by decide +kernel
theorem dX11_reach_49 : decode cX11_reach 49 = .ok (.ldc_w 283, 3) := by decide +kernel
theorem dX11_reach_52 : decode cX11_reach 52 = .ok (.ireturn, 1) := by decide +kernel
set_option maxRecDepth 20000 in
theorem ggX11_joined_X11_gapAt : GoodIn wsX11_joined wsX11_gapAt := goodIn_r _ [8, 3, 12, 13, 14, 15, 16, 17, 18, 19, 20, 21, 22, 23, 24, 25, 26, 27, 28, 29, 30, 31, 32, 33, 34, 35, 36, 37, 38, 39, 40, 41] (by decide +kernel) (by decide +kernel)
set_option maxRecDepth 20000 in
theorem gX11_joined_X11_gapAt : GoodIn wsX11_joined (wsV RX11 185 RX11 yX11_gapAt wsX11_gapAt) := goodIn_app (goodIn_of _ (by decide +kernel)) ggX11_joined_X11_gapAt
set_option maxRecDepth 20000 in
theorem ggX11_joined_X11_measure : GoodIn wsX11_joined wsX11_measure := goodIn_r _ [11] (by decide +kernel) (by decide +kernel)
set_option maxRecDepth 20000 in
theorem gX11_joined_X11_measure : GoodIn wsX11_joined (va_wsS RX11 279 yX11_measure wsX11_measure) := goodIn_app (goodIn_of _ (by decide +kernel)) ggX11_joined_X11_measure
theorem dX11_joined_0 : decode cX11_joined 0 = .ok (.aload_n 0, 1) := by decide +kernel
theorem dX11_joined_1 : decode cX11_joined 1 = .ok (.iconst 0, 1) := by decide +kernel
theorem dX11_joined_2 : decode cX11_joined 2 = .ok (.putfield 66, 3) := by decide +kernel
theorem dX11_joined_5 : decode cX11_joined 5 = .ok (.aload_n 0, 1) := by decide +kernel
theorem dX11_joined_6 : decode cX11_joined 6 = .ok (.getfield 39, 3) := by decide +kernel
theorem dX11_joined_9 : decode cX11_joined 9 = .ok (.iconst 0, 1) := by decide +kernel
theorem dX11_joined_10 : decode cX11_joined 10 = .ok (.iload_n 1, 1) := by decide +kernel
theorem dX11_joined_11 : decode cX11_joined 11 = .ok (.iastore, 1) := by decide +kernel
theorem dX11_joined_12 : decode cX11_joined 12 = .ok (.aload_n 0, 1) := by decide +kernel
theorem dX11_joined_13 : decode cX11_joined 13 = .ok (.getfield 39, 3) := by decide +kernel
theorem dX11_joined_16 : decode cX11_joined 16 = .ok (.iconst 1, 1) := by decide +kernel
theorem dX11_joined_17 : decode cX11_joined 17 = .ok (.iload_n 2, 1) := by decide +kernel
theorem dX11_joined_18 : decode cX11_joined 18 = .ok (.iastore, 1) := by decide +kernel
theorem dX11_joined_19 : decode cX11_joined 19 = .ok (.aload_n 0, 1) := by decide +kernel
theorem dX11_joined_20 : decode cX11_joined 20 = .ok (.getfield 39, 3) := by decide +kernel
theorem dX11_joined_23 : decode cX11_joined 23 = .ok (.iconst 2, 1) := by decide +kernel
theorem dX11_joined_24 : decode cX11_joined 24 = .ok (.iload_n 3, 1) := by decide +kernel
theorem dX11_joined_25 : decode cX11_joined 25 = .ok (.iastore, 1) := by decide +kernel
theorem dX11_joined_26 : decode cX11_joined 26 = .ok (.aload_n 0, 1) := by decide +kernel
theorem dX11_joined_27 : decode cX11_joined 27 = .ok (.getfield 39, 3) := by decide +kernel
theorem dX11_joined_30 : decode cX11_joined 30 = .ok (.iconst 3, 1) := by decide +kernel
theorem dX11_joined_31 : decode cX11_joined 31 = .ok (.iload 4, 2) := by decide +kernel
theorem dX11_joined_33 : decode cX11_joined 33 = .ok (.iastore, 1) := by decide +kernel
theorem dX11_joined_34 : decode cX11_joined 34 = .ok (.aload_n 0, 1) := by decide +kernel
theorem dX11_joined_35 : decode cX11_joined 35 = .ok (.getfield 39, 3) := by decide +kernel
theorem dX11_joined_38 : decode cX11_joined 38 = .ok (.iconst 4, 1) := by decide +kernel
theorem dX11_joined_39 : decode cX11_joined 39 = .ok (.iload 5, 2) := by decide +kernel
theorem dX11_joined_41 : decode cX11_joined 41 = .ok (.iastore, 1) := by decide +kernel
theorem dX11_joined_42 : decode cX11_joined 42 = .ok (.lconst 0, 1) := by decide +kernel
theorem dX11_joined_43 : decode cX11_joined 43 = .ok (.lstore 6, 2) := by decide +kernel
theorem dX11_joined_45 : decode cX11_joined 45 = .ok (.lconst 1, 1) := by decide +kernel
theorem dX11_joined_46 : decode cX11_joined 46 = .ok (.lstore 8, 2) := by decide +kernel
theorem dX11_joined_48 : decode cX11_joined 48 = .ok (.iconst 0, 1) := by decide +kernel
theorem dX11_joined_49 : decode cX11_joined 49 = .ok (.istore 10, 2) := by decide +kernel
theorem dX11_joined_51 : decode cX11_joined 51 = .ok (.iload 10, 2) := by decide +kernel
theorem dX11_joined_53 : decode cX11_joined 53 = .ok (.aload_n 0, 1) := by decide +kernel
theorem dX11_joined_54 : decode cX11_joined 54 = .ok (.getfield 7, 3) := by decide +kernel
theorem dX11_joined_57 : decode cX11_joined 57 = .ok (.iconst 0, 1) := by decide +kernel
theorem dX11_joined_58 : decode cX11_joined 58 = .ok (.iaload, 1) := by decide +kernel
theorem dX11_joined_59 : decode cX11_joined 59 = .ok (.if_icmp .ge 127, 3) := by decide +kernel
theorem dX11_joined_62 : decode cX11_joined 62 = .ok (.aload_n 0, 1) := by decide +kernel
theorem dX11_joined_63 : decode cX11_joined 63 = .ok (.getfield 39, 3) := by decide +kernel
theorem dX11_joined_66 : decode cX11_joined 66 = .ok (.iload 10, 2) := by decide +kernel
theorem dX11_joined_68 : decode cX11_joined 68 = .ok (.iaload, 1) := by decide +kernel
theorem dX11_joined_69 : decode cX11_joined 69 = .ok (.ifCond .ge 6, 3) := by decide +kernel
theorem dX11_joined_72 : decode cX11_joined 72 = .ok (.goto 108, 3) := by decide +kernel
theorem dX11_joined_75 : decode cX11_joined 75 = .ok (.iconst 0, 1) := by decide +kernel
theorem dX11_joined_76 : decode cX11_joined 76 = .ok (.istore 11, 2) := by decide +kernel
theorem dX11_joined_78 : decode cX11_joined 78 = .ok (.iload 11, 2) := by decide +kernel
theorem dX11_joined_80 : decode cX11_joined 80 = .ok (.aload_n 0, 1) := by decide +kernel
theorem dX11_joined_81 : decode cX11_joined 81 = .ok (.iload 10, 2) := by decide +kernel
theorem dX11_joined_83 : decode cX11_joined 83 = .ok (.invokevirtual 185, 3) := by decide +kernel
theorem dX11_joined_86 : decode cX11_joined 86 = .ok (.if_icmp .ge 38, 3) := by decide +kernel
theorem dX11_joined_89 : decode cX11_joined 89 = .ok (.lload 6, 2) := by decide +kernel
theorem dX11_joined_91 : decode cX11_joined 91 = .ok (.aload_n 0, 1) := by decide +kernel
theorem dX11_joined_92 : decode cX11_joined 92 = .ok (.iload 10, 2) := by decide +kernel
theorem dX11_joined_94 : decode cX11_joined 94 = .ok (.invokevirtual 185, 3) := by decide +kernel
theorem dX11_joined_97 : decode cX11_joined 97 = .ok (.i2l, 1) := by decide +kernel
theorem dX11_joined_98 : decode cX11_joined 98 = .ok (.lrem, 1) := by decide +kernel
theorem dX11_joined_99 : decode cX11_joined 99 = .ok (.aload_n 0, 1) := by decide +kernel
theorem dX11_joined_100 : decode cX11_joined 100 = .ok (.getfield 39, 3) := by decide +kernel
theorem dX11_joined_103 : decode cX11_joined 103 = .ok (.iload 10, 2) := by decide +kernel
theorem dX11_joined_105 : decode cX11_joined 105 = .ok (.iaload, 1) := by decide +kernel
theorem dX11_joined_106 : decode cX11_joined 106 = .ok (.i2l, 1) := by decide +kernel
theorem dX11_joined_107 : decode cX11_joined 107 = .ok (.lcmp, 1) := by decide +kernel
theorem dX11_joined_108 : decode cX11_joined 108 = .ok (.ifCond .eq 16, 3) := by decide +kernel
theorem dX11_joined_111 : decode cX11_joined 111 = .ok (.lload 6, 2) := by decide +kernel
theorem dX11_joined_113 : decode cX11_joined 113 = .ok (.lload 8, 2) := by decide +kernel
theorem dX11_joined_115 : decode cX11_joined 115 = .ok (.ladd, 1) := by decide +kernel
theorem dX11_joined_116 : decode cX11_joined 116 = .ok (.lstore 6, 2) := by decide +kernel
theorem dX11_joined_118 : decode cX11_joined 118 = .ok (.iinc 11 1, 3) := by decide +kernel
theorem dX11_joined_121 : decode cX11_joined 121 = .ok (.goto (-43), 3) := by decide +kernel
theorem dX11_joined_124 : decode cX11_joined 124 = .ok (.lload 6, 2) := by decide +kernel
theorem dX11_joined_126 : decode cX11_joined 126 = .ok (.aload_n 0, 1) := by decide +kernel
theorem dX11_joined_127 : decode cX11_joined 127 = .ok (.iload 10, 2) := by decide +kernel
theorem dX11_joined_129 : decode cX11_joined 129 = .ok (.invokevirtual 185, 3) := by decide +kernel
theorem dX11_joined_132 : decode cX11_joined 132 = .ok (.i2l, 1) := by decide +kernel
theorem dX11_joined_133 : decode cX11_joined 133 = .ok (.lrem, 1) := by decide +kernel
theorem dX11_joined_134 : decode cX11_joined 134 = .ok (.aload_n 0, 1) := by decide +kernel
theorem dX11_joined_135 : decode cX11_joined 135 = .ok (.getfield 39, 3) := by decide +kernel
theorem dX11_joined_138 : decode cX11_joined 138 = .ok (.iload 10, 2) := by decide +kernel
theorem dX11_joined_140 : decode cX11_joined 140 = .ok (.iaload, 1) := by decide +kernel
theorem dX11_joined_141 : decode cX11_joined 141 = .ok (.i2l, 1) := by decide +kernel
theorem dX11_joined_142 : decode cX11_joined 142 = .ok (.lcmp, 1) := by decide +kernel
theorem dX11_joined_143 : decode cX11_joined 143 = .ok (.ifCond .eq 5, 3) := by decide +kernel
theorem dX11_joined_146 : decode cX11_joined 146 = .ok (.iconst (-1), 1) := by decide +kernel
theorem dX11_joined_147 : decode cX11_joined 147 = .ok (.ireturn, 1) := by decide +kernel
theorem dX11_joined_148 : decode cX11_joined 148 = .ok (.lload 8, 2) := by decide +kernel
theorem dX11_joined_150 : decode cX11_joined 150 = .ok (.lload 8, 2) := by decide +kernel
theorem dX11_joined_152 : decode cX11_joined 152 = .ok (.aload_n 0, 1) := by decide +kernel
theorem dX11_joined_153 : decode cX11_joined 153 = .ok (.iload 10, 2) := by decide +kernel
theorem dX11_joined_155 : decode cX11_joined 155 = .ok (.invokevirtual 185, 3) := by decide +kernel
theorem dX11_joined_158 : decode cX11_joined 158 = .ok (.i2l, 1) := by decide +kernel
theorem dX11_joined_159 : decode cX11_joined 159 = .ok (.invokestatic 279, 3) := by decide +kernel
theorem dX11_joined_162 : decode cX11_joined 162 = .ok (.ldiv, 1) := by decide +kernel
theorem dX11_joined_163 : decode cX11_joined 163 = .ok (.aload_n 0, 1) := by decide +kernel
theorem dX11_joined_164 : decode cX11_joined 164 = .ok (.iload 10, 2) := by decide +kernel
theorem dX11_joined_166 : decode cX11_joined 166 = .ok (.invokevirtual 185, 3) := by decide +kernel
theorem dX11_joined_169 : decode cX11_joined 169 = .ok (.i2l, 1) := by decide +kernel
theorem dX11_joined_170 : decode cX11_joined 170 = .ok (.lmul, 1) := by decide +kernel
theorem dX11_joined_171 : decode cX11_joined 171 = .ok (.lstore 8, 2) := by decide +kernel
theorem dX11_joined_173 : decode cX11_joined 173 = .ok (.lload 6, 2) := by decide +kernel
theorem dX11_joined_175 : decode cX11_joined 175 = .ok (.lload 8, 2) := by decide +kernel
theorem dX11_joined_177 : decode cX11_joined 177 = .ok (.lrem, 1) := by decide +kernel
theorem dX11_joined_178 : decode cX11_joined 178 = .ok (.lstore 6, 2) := by decide +kernel
theorem dX11_joined_180 : decode cX11_joined 180 = .ok (.iinc 10 1, 3) := by decide +kernel
theorem dX11_joined_183 : decode cX11_joined 183 = .ok (.goto (-132), 3) := by decide +kernel
theorem dX11_joined_186 : decode cX11_joined 186 = .ok (.lload 6, 2) := by decide +kernel
theorem dX11_joined_188 : decode cX11_joined 188 = .ok (.l2i, 1) := by decide +kernel
theorem dX11_joined_189 : decode cX11_joined 189 = .ok (.ireturn, 1) := by decide +kernel
set_option maxRecDepth 20000 in
theorem ggX11_at_X11_isGap : GoodIn wsX11_at wsX11_isGap := goodIn_r _ [7, 2, 8, 9, 6, 10, 34, 35, 36, 37, 38, 39, 40, 41, 42, 43, 44, 45, 46, 47, 48, 49, 50, 51, 52, 53, 54, 55, 56, 57, 58, 59, 60, 61, 62, 63] (by decide +kernel) (by decide +kernel)
set_option maxRecDepth 20000 in
theorem gX11_at_X11_isGap : GoodIn wsX11_at (wsV RX11 267 RX11 yX11_isGap wsX11_isGap) := goodIn_app (goodIn_of _ (by decide +kernel)) ggX11_at_X11_isGap
set_option maxRecDepth 20000 in
theorem ggX11_at_X11_gapAt : GoodIn wsX11_at wsX11_gapAt := goodIn_r _ [14, 2, 34, 35, 36, 37, 38, 39, 40, 41, 42, 43, 44, 45, 46, 47, 48, 49, 50, 51, 52, 53, 54, 55, 56, 57, 58, 59, 60, 61, 62, 63] (by decide +kernel) (by decide +kernel)
set_option maxRecDepth 20000 in
theorem gX11_at_X11_gapAt : GoodIn wsX11_at (wsV RX11 185 RX11 yX11_gapAt wsX11_gapAt) := goodIn_app (goodIn_of _ (by decide +kernel)) ggX11_at_X11_gapAt
set_option maxRecDepth 20000 in
theorem ggX11_at_X11_in : GoodIn wsX11_at wsX11_in := goodIn_r _ [10] (by decide +kernel) (by decide +kernel)
set_option maxRecDepth 20000 in
theorem gX11_at_X11_in : GoodIn wsX11_at (va_wsS RX11 70 yX11_in wsX11_in) := goodIn_app (goodIn_of _ (by decide +kernel)) ggX11_at_X11_in
set_option maxRecDepth 20000 in
theorem ggX11_at_X11_isSeen : GoodIn wsX11_at wsX11_isSeen := goodIn_r _ [18, 2, 19, 20, 21, 6, 22, 11, 12, 13, 14, 23, 24, 25, 26, 27, 28, 29, 30, 31, 32, 33, 34, 35, 36, 37, 38, 39, 40, 41, 42, 43, 44, 45, 46, 47, 48, 49, 50, 51, 52, 53, 54, 55, 56, 57, 58, 59, 60, 61, 62, 63] (by decide +kernel) (by decide +kernel)
set_option maxRecDepth 20000 in
theorem gX11_at_X11_isSeen : GoodIn wsX11_at (wsV RX11 230 RX11 yX11_isSeen wsX11_isSeen) := goodIn_app (goodIn_of _ (by decide +kernel)) ggX11_at_X11_isSeen
set_option maxRecDepth 20000 in
theorem ggX11_at_X11_rangeOf : GoodIn wsX11_at wsX11_rangeOf := goodIn_r _ [33, 19, 20, 21, 6, 22, 2, 34, 35, 36, 37, 38, 39, 40, 41, 42, 43, 44, 45, 46, 47, 48, 49, 50, 51, 52, 53, 54, 55, 56, 57, 58, 59, 60, 61, 62, 63] (by decide +kernel) (by decide +kernel)
set_option maxRecDepth 20000 in
theorem gX11_at_X11_rangeOf : GoodIn wsX11_at (wsV RX11 227 RX11 yX11_rangeOf wsX11_rangeOf) := goodIn_app (goodIn_of _ (by decide +kernel)) ggX11_at_X11_rangeOf
set_option maxRecDepth 20000 in
theorem ggX11_at_X11_of : GoodIn wsX11_at wsX11_of := goodIn_r _ [22, 2, 34, 35, 36, 37, 38, 39, 40, 41, 42, 43, 44, 45, 46, 47, 48, 49, 50, 51, 52, 53, 54, 55, 56, 57, 58, 59, 60, 61, 62, 63] (by decide +kernel) (by decide +kernel)
set_option maxRecDepth 20000 in
theorem gX11_at_X11_of : GoodIn wsX11_at (wsV RX11 74 RX11 yX11_of wsX11_of) := goodIn_app (goodIn_of _ (by decide +kernel)) ggX11_at_X11_of
theorem dX11_at_0 : decode cX11_at 0 = .ok (.aload_n 0, 1) := by decide +kernel
theorem dX11_at_1 : decode cX11_at 1 = .ok (.iconst 0, 1) := by decide +kernel
theorem dX11_at_2 : decode cX11_at 2 = .ok (.putfield 66, 3) := by decide +kernel
theorem dX11_at_5 : decode cX11_at 5 = .ok (.aload_n 0, 1) := by decide +kernel
theorem dX11_at_6 : decode cX11_at 6 = .ok (.iload_n 1, 1) := by decide +kernel
theorem dX11_at_7 : decode cX11_at 7 = .ok (.invokevirtual 267, 3) := by decide +kernel
theorem dX11_at_10 : decode cX11_at 10 = .ok (.ifCond .eq 18, 3) := by decide +kernel
theorem dX11_at_13 : decode cX11_at 13 = .ok (.iload_n 2, 1) := by decide +kernel
theorem dX11_at_14 : decode cX11_at 14 = .ok (.iconst 0, 1) := by decide +kernel
theorem dX11_at_15 : decode cX11_at 15 = .ok (.aload_n 0, 1) := by decide +kernel
theorem dX11_at_16 : decode cX11_at 16 = .ok (.iload_n 1, 1) := by decide +kernel
theorem dX11_at_17 : decode cX11_at 17 = .ok (.invokevirtual 185, 3) := by decide +kernel
theorem dX11_at_20 : decode cX11_at 20 = .ok (.iconst 1, 1) := by decide +kernel
theorem dX11_at_21 : decode cX11_at 21 = .ok (.isub, 1) := by decide +kernel
theorem dX11_at_22 : decode cX11_at 22 = .ok (.invokestatic 70, 3) := by decide +kernel
theorem dX11_at_25 : decode cX11_at 25 = .ok (.ifCond .ne 5, 3) := by decide +kernel
theorem dX11_at_28 : decode cX11_at 28 = .ok (.iconst (-1), 1) := by decide +kernel
theorem dX11_at_29 : decode cX11_at 29 = .ok (.ireturn, 1) := by decide +kernel
theorem dX11_at_30 : decode cX11_at 30 = .ok (.iconst 0, 1) := by decide +kernel
theorem dX11_at_31 : decode cX11_at 31 = .ok (.istore 4, 2) := by decide +kernel
theorem dX11_at_33 : decode cX11_at 33 = .ok (.iconst 0, 1) := by decide +kernel
theorem dX11_at_34 : decode cX11_at 34 = .ok (.istore 5, 2) := by decide +kernel
theorem dX11_at_36 : decode cX11_at 36 = .ok (.iconst 0, 1) := by decide +kernel
theorem dX11_at_37 : decode cX11_at 37 = .ok (.istore 6, 2) := by decide +kernel
theorem dX11_at_39 : decode cX11_at 39 = .ok (.iload 6, 2) := by decide +kernel
theorem dX11_at_41 : decode cX11_at 41 = .ok (.aload_n 0, 1) := by decide +kernel
theorem dX11_at_42 : decode cX11_at 42 = .ok (.getfield 7, 3) := by decide +kernel
theorem dX11_at_45 : decode cX11_at 45 = .ok (.bipush 13, 2) := by decide +kernel
theorem dX11_at_47 : decode cX11_at 47 = .ok (.iaload, 1) := by decide +kernel
theorem dX11_at_48 : decode cX11_at 48 = .ok (.if_icmp .ge 81, 3) := by decide +kernel
theorem dX11_at_51 : decode cX11_at 51 = .ok (.aload_n 0, 1) := by decide +kernel
theorem dX11_at_52 : decode cX11_at 52 = .ok (.iload 6, 2) := by decide +kernel
theorem dX11_at_54 : decode cX11_at 54 = .ok (.iload_n 1, 1) := by decide +kernel
theorem dX11_at_55 : decode cX11_at 55 = .ok (.invokevirtual 230, 3) := by decide +kernel
theorem dX11_at_58 : decode cX11_at 58 = .ok (.ifCond .eq 23, 3) := by decide +kernel
theorem dX11_at_61 : decode cX11_at 61 = .ok (.aload_n 0, 1) := by decide +kernel
theorem dX11_at_62 : decode cX11_at 62 = .ok (.iload 6, 2) := by decide +kernel
theorem dX11_at_64 : decode cX11_at 64 = .ok (.invokevirtual 227, 3) := by decide +kernel
theorem dX11_at_67 : decode cX11_at 67 = .ok (.aload_n 0, 1) := by decide +kernel
theorem dX11_at_68 : decode cX11_at 68 = .ok (.iload_n 1, 1) := by decide +kernel
theorem dX11_at_69 : decode cX11_at 69 = .ok (.invokevirtual 185, 3) := by decide +kernel
theorem dX11_at_72 : decode cX11_at 72 = .ok (.irem, 1) := by decide +kernel
theorem dX11_at_73 : decode cX11_at 73 = .ok (.iload_n 2, 1) := by decide +kernel
theorem dX11_at_74 : decode cX11_at 74 = .ok (.if_icmp .ne 7, 3) := by decide +kernel
theorem dX11_at_77 : decode cX11_at 77 = .ok (.iconst 1, 1) := by decide +kernel
theorem dX11_at_78 : decode cX11_at 78 = .ok (.goto 4, 3) := by decide +kernel
theorem dX11_at_81 : decode cX11_at 81 = .ok (.iconst 0, 1) := by decide +kernel
theorem dX11_at_82 : decode cX11_at 82 = .ok (.istore 7, 2) := by decide +kernel
theorem dX11_at_84 : decode cX11_at 84 = .ok (.iload 4, 2) := by decide +kernel
theorem dX11_at_86 : decode cX11_at 86 = .ok (.iload 7, 2) := by decide +kernel
theorem dX11_at_88 : decode cX11_at 88 = .ok (.ifCond .eq 10, 3) := by decide +kernel
theorem dX11_at_91 : decode cX11_at 91 = .ok (.iconst 1, 1) := by decide +kernel
theorem dX11_at_92 : decode cX11_at 92 = .ok (.iload 6, 2) := by decide +kernel
theorem dX11_at_94 : decode cX11_at 94 = .ok (.ishl, 1) := by decide +kernel
theorem dX11_at_95 : decode cX11_at 95 = .ok (.goto 4, 3) := by decide +kernel
theorem dX11_at_98 : decode cX11_at 98 = .ok (.iconst 0, 1) := by decide +kernel
theorem dX11_at_99 : decode cX11_at 99 = .ok (.ior, 1) := by decide +kernel
theorem dX11_at_100 : decode cX11_at 100 = .ok (.istore 4, 2) := by decide +kernel
theorem dX11_at_102 : decode cX11_at 102 = .ok (.iload 5, 2) := by decide +kernel
theorem dX11_at_104 : decode cX11_at 104 = .ok (.iload 7, 2) := by decide +kernel
theorem dX11_at_106 : decode cX11_at 106 = .ok (.ifCond .eq 13, 3) := by decide +kernel
theorem dX11_at_109 : decode cX11_at 109 = .ok (.aload_n 0, 1) := by decide +kernel
theorem dX11_at_110 : decode cX11_at 110 = .ok (.iload 6, 2) := by decide +kernel
theorem dX11_at_112 : decode cX11_at 112 = .ok (.iconst 2, 1) := by decide +kernel
theorem dX11_at_113 : decode cX11_at 113 = .ok (.invokevirtual 74, 3) := by decide +kernel
theorem dX11_at_116 : decode cX11_at 116 = .ok (.goto 4, 3) := by decide +kernel
theorem dX11_at_119 : decode cX11_at 119 = .ok (.iconst 0, 1) := by decide +kernel
theorem dX11_at_120 : decode cX11_at 120 = .ok (.iadd, 1) := by decide +kernel
theorem dX11_at_121 : decode cX11_at 121 = .ok (.istore 5, 2) := by decide +kernel
theorem dX11_at_123 : decode cX11_at 123 = .ok (.iinc 6 1, 3) := by decide +kernel
theorem dX11_at_126 : decode cX11_at 126 = .ok (.goto (-87), 3) := by decide +kernel
theorem dX11_at_129 : decode cX11_at 129 = .ok (.iload_n 3, 1) := by decide +kernel
theorem dX11_at_130 : decode cX11_at 130 = .ok (.ifCond .eq 8, 3) := by decide +kernel
theorem dX11_at_133 : decode cX11_at 133 = .ok (.iload 5, 2) := by decide +kernel
theorem dX11_at_135 : decode cX11_at 135 = .ok (.goto 5, 3) := by decide +kernel
theorem dX11_at_138 : decode cX11_at 138 = .ok (.iload 4, 2) := by decide +kernel
theorem dX11_at_140 : decode cX11_at 140 = .ok (.ireturn, 1) := by decide +kernel
set_option maxRecDepth 20000 in
theorem ggX11_hits_X11_in : GoodIn wsX11_hits wsX11_in := goodIn_r _ [5] (by decide +kernel) (by decide +kernel)
set_option maxRecDepth 20000 in
theorem gX11_hits_X11_in : GoodIn wsX11_hits (va_wsS RX11 70 yX11_in wsX11_in) := goodIn_app (goodIn_of _ (by decide +kernel)) ggX11_hits_X11_in
set_option maxRecDepth 20000 in
theorem ggX11_hits_X11_laysLoud : GoodIn wsX11_hits wsX11_laysLoud := goodIn_r _ [9, 10, 11, 12, 13, 14, 4, 15, 16, 17, 18, 19, 20, 21, 22, 23, 24, 25, 26, 27, 28, 29, 30, 31, 32, 33, 34, 43, 44, 45, 46, 47, 48, 49, 50, 51, 52, 53, 54, 55, 56, 57, 58, 59, 60, 61, 62, 63, 64, 65, 66, 67, 68, 69, 70, 71, 72] (by decide +kernel) (by decide +kernel)
set_option maxRecDepth 20000 in
theorem gX11_hits_X11_laysLoud : GoodIn wsX11_hits (wsV RX11 245 RX11 yX11_laysLoud wsX11_laysLoud) := goodIn_app (goodIn_of _ (by decide +kernel)) ggX11_hits_X11_laysLoud
set_option maxRecDepth 20000 in
theorem ggX11_hits_X11_hitBits : GoodIn wsX11_hits wsX11_hitBits := goodIn_r _ [38, 11, 20, 21, 22, 4, 23, 39, 40, 41, 42, 10, 43, 44, 45, 46, 47, 48, 49, 50, 51, 52, 53, 54, 55, 56, 57, 58, 59, 60, 61, 62, 63, 64, 65, 66, 67, 68, 69, 70, 71, 72] (by decide +kernel) (by decide +kernel)
set_option maxRecDepth 20000 in
theorem gX11_hits_X11_hitBits : GoodIn wsX11_hits (wsV RX11 236 RX11 yX11_hitBits wsX11_hitBits) := goodIn_app (goodIn_of _ (by decide +kernel)) ggX11_hits_X11_hitBits
theorem dX11_hits_0 : decode cX11_hits 0 = .ok (.aload_n 0, 1) := by decide +kernel
theorem dX11_hits_1 : decode cX11_hits 1 = .ok (.iconst 0, 1) := by decide +kernel
theorem dX11_hits_2 : decode cX11_hits 2 = .ok (.putfield 66, 3) := by decide +kernel
theorem dX11_hits_5 : decode cX11_hits 5 = .ok (.iload_n 1, 1) := by decide +kernel
theorem dX11_hits_6 : decode cX11_hits 6 = .ok (.iconst 0, 1) := by decide +kernel
theorem dX11_hits_7 : decode cX11_hits 7 = .ok (.sipush 9999, 3) := by decide +kernel
theorem dX11_hits_10 : decode cX11_hits 10 = .ok (.invokestatic 70, 3) := by decide +kernel
theorem dX11_hits_13 : decode cX11_hits 13 = .ok (.ifCond .ne 5, 3) := by decide +kernel
theorem dX11_hits_16 : decode cX11_hits 16 = .ok (.iconst (-1), 1) := by decide +kernel
theorem dX11_hits_17 : decode cX11_hits 17 = .ok (.ireturn, 1) := by decide +kernel
theorem dX11_hits_18 : decode cX11_hits 18 = .ok (.aload_n 0, 1) := by decide +kernel
theorem dX11_hits_19 : decode cX11_hits 19 = .ok (.invokevirtual 245, 3) := by decide +kernel
theorem dX11_hits_22 : decode cX11_hits 22 = .ok (.aload_n 0, 1) := by decide +kernel
theorem dX11_hits_23 : decode cX11_hits 23 = .ok (.iload_n 1, 1) := by decide +kernel
theorem dX11_hits_24 : decode cX11_hits 24 = .ok (.invokevirtual 236, 3) := by decide +kernel
theorem dX11_hits_27 : decode cX11_hits 27 = .ok (.ireturn, 1) := by decide +kernel
set_option maxRecDepth 20000 in
theorem ggX11_found_X11_laysLoud : GoodIn wsX11_found wsX11_laysLoud := goodIn_r _ [7, 8, 2, 9, 10, 11, 6, 12, 13, 14, 15, 16, 17, 18, 19, 20, 21, 22, 23, 24, 25, 26, 27, 28, 29, 30, 31, 51, 52, 53, 54, 55, 56, 57, 58, 59, 60, 61, 62, 63, 64, 65, 66, 67, 68, 69, 70, 71, 72, 73, 74, 75, 76, 77, 78, 79, 80] (by decide +kernel) (by decide +kernel)
set_option maxRecDepth 20000 in
theorem gX11_found_X11_laysLoud : GoodIn wsX11_found (wsV RX11 245 RX11 yX11_laysLoud wsX11_laysLoud) := goodIn_app (goodIn_of _ (by decide +kernel)) ggX11_found_X11_laysLoud
set_option maxRecDepth 20000 in
theorem ggX11_found_X11_isFound : GoodIn wsX11_found wsX11_isFound := goodIn_r _ [35, 2, 36, 37, 38, 6, 39, 17, 18, 19, 20, 40, 41, 42, 43, 8, 44, 45, 46, 51, 52, 53, 54, 55, 56, 57, 58, 59, 60, 61, 62, 63, 64, 65, 66, 67, 68, 69, 70, 71, 72, 73, 74, 75, 76, 77, 78, 79, 80] (by decide +kernel) (by decide +kernel)
set_option maxRecDepth 20000 in
theorem gX11_found_X11_isFound : GoodIn wsX11_found (wsV RX11 239 RX11 yX11_isFound wsX11_isFound) := goodIn_app (goodIn_of _ (by decide +kernel)) ggX11_found_X11_isFound
set_option maxRecDepth 20000 in
theorem ggX11_found_X11_isRange : GoodIn wsX11_found wsX11_isRange := goodIn_r _ [50, 2, 9, 10, 11, 6, 12, 13, 14, 15, 16, 51, 52, 53, 54, 55, 56, 57, 58, 59, 60, 61, 62, 63, 64, 65, 66, 67, 68, 69, 70, 71, 72, 73, 74, 75, 76, 77, 78, 79, 80] (by decide +kernel) (by decide +kernel)
set_option maxRecDepth 20000 in
theorem gX11_found_X11_isRange : GoodIn wsX11_found (wsV RX11 242 RX11 yX11_isRange wsX11_isRange) := goodIn_app (goodIn_of _ (by decide +kernel)) ggX11_found_X11_isRange
theorem dX11_found_0 : decode cX11_found 0 = .ok (.aload_n 0, 1) := by decide +kernel
theorem dX11_found_1 : decode cX11_found 1 = .ok (.iconst 0, 1) := by decide +kernel
theorem dX11_found_2 : decode cX11_found 2 = .ok (.putfield 66, 3) := by decide +kernel
theorem dX11_found_5 : decode cX11_found 5 = .ok (.aload_n 0, 1) := by decide +kernel
theorem dX11_found_6 : decode cX11_found 6 = .ok (.invokevirtual 245, 3) := by decide +kernel
theorem dX11_found_9 : decode cX11_found 9 = .ok (.iconst 0, 1) := by decide +kernel
theorem dX11_found_10 : decode cX11_found 10 = .ok (.istore_n 3, 1) := by decide +kernel
theorem dX11_found_11 : decode cX11_found 11 = .ok (.iconst 0, 1) := by decide +kernel
theorem dX11_found_12 : decode cX11_found 12 = .ok (.istore 4, 2) := by decide +kernel
theorem dX11_found_14 : decode cX11_found 14 = .ok (.iload 4, 2) := by decide +kernel
theorem dX11_found_16 : decode cX11_found 16 = .ok (.aload_n 0, 1) := by decide +kernel
theorem dX11_found_17 : decode cX11_found 17 = .ok (.getfield 7, 3) := by decide +kernel
theorem dX11_found_20 : decode cX11_found 20 = .ok (.bipush 9, 2) := by decide +kernel
theorem dX11_found_22 : decode cX11_found 22 = .ok (.iaload, 1) := by decide +kernel
theorem dX11_found_23 : decode cX11_found 23 = .ok (.if_icmp .ge 42, 3) := by decide +kernel
theorem dX11_found_26 : decode cX11_found 26 = .ok (.aload_n 0, 1) := by decide +kernel
theorem dX11_found_27 : decode cX11_found 27 = .ok (.iload 4, 2) := by decide +kernel
theorem dX11_found_29 : decode cX11_found 29 = .ok (.invokevirtual 239, 3) := by decide +kernel
theorem dX11_found_32 : decode cX11_found 32 = .ok (.ifCond .eq 27, 3) := by decide +kernel
theorem dX11_found_35 : decode cX11_found 35 = .ok (.iload_n 2, 1) := by decide +kernel
theorem dX11_found_36 : decode cX11_found 36 = .ok (.ifCond .eq 12, 3) := by decide +kernel
theorem dX11_found_39 : decode cX11_found 39 = .ok (.aload_n 0, 1) := by decide +kernel
theorem dX11_found_40 : decode cX11_found 40 = .ok (.iload 4, 2) := by decide +kernel
theorem dX11_found_42 : decode cX11_found 42 = .ok (.invokevirtual 242, 3) := by decide +kernel
theorem dX11_found_45 : decode cX11_found 45 = .ok (.ifCond .ne 14, 3) := by decide +kernel
theorem dX11_found_48 : decode cX11_found 48 = .ok (.iload_n 3, 1) := by decide +kernel
theorem dX11_found_49 : decode cX11_found 49 = .ok (.iload_n 1, 1) := by decide +kernel
theorem dX11_found_50 : decode cX11_found 50 = .ok (.if_icmp .ne 6, 3) := by decide +kernel
theorem dX11_found_53 : decode cX11_found 53 = .ok (.iload 4, 2) := by decide +kernel
theorem dX11_found_55 : decode cX11_found 55 = .ok (.ireturn, 1) := by decide +kernel
theorem dX11_found_56 : decode cX11_found 56 = .ok (.iinc 3 1, 3) := by decide +kernel
theorem dX11_found_59 : decode cX11_found 59 = .ok (.iinc 4 1, 3) := by decide +kernel
theorem dX11_found_62 : decode cX11_found 62 = .ok (.goto (-48), 3) := by decide +kernel
theorem dX11_found_65 : decode cX11_found 65 = .ok (.iconst (-1), 1) := by decide +kernel
theorem dX11_found_66 : decode cX11_found 66 = .ok (.ireturn, 1) := by decide +kernel
set_option maxRecDepth 20000 in
theorem ggX11_makers_X11_in : GoodIn wsX11_makers wsX11_in := goodIn_r _ [6] (by decide +kernel) (by decide +kernel)
set_option maxRecDepth 20000 in
theorem gX11_makers_X11_in : GoodIn wsX11_makers (va_wsS RX11 70 yX11_in wsX11_in) := goodIn_app (goodIn_of _ (by decide +kernel)) ggX11_makers_X11_in
set_option maxRecDepth 20000 in
theorem ggX11_makers_X11_laysLoud : GoodIn wsX11_makers wsX11_laysLoud := goodIn_r _ [10, 11, 2, 12, 13, 14, 5, 15, 16, 17, 18, 19, 20, 21, 22, 23, 24, 25, 26, 27, 28, 29, 30, 31, 32, 33, 34, 39, 40, 41, 42, 43, 44, 45, 46, 47, 48, 49, 50, 51, 52, 53, 54, 55, 56, 57, 58, 59, 60, 61, 62, 63, 64, 65, 66, 67, 68] (by decide +kernel) (by decide +kernel)
set_option maxRecDepth 20000 in
theorem gX11_makers_X11_laysLoud : GoodIn wsX11_makers (wsV RX11 245 RX11 yX11_laysLoud wsX11_laysLoud) := goodIn_app (goodIn_of _ (by decide +kernel)) ggX11_makers_X11_laysLoud
set_option maxRecDepth 20000 in
theorem ggX11_makers_X11_gapAt : GoodIn wsX11_makers wsX11_gapAt := goodIn_r _ [23, 2, 39, 40, 41, 42, 43, 44, 45, 46, 47, 48, 49, 50, 51, 52, 53, 54, 55, 56, 57, 58, 59, 60, 61, 62, 63, 64, 65, 66, 67, 68] (by decide +kernel) (by decide +kernel)
set_option maxRecDepth 20000 in
theorem gX11_makers_X11_gapAt : GoodIn wsX11_makers (wsV RX11 185 RX11 yX11_gapAt wsX11_gapAt) := goodIn_app (goodIn_of _ (by decide +kernel)) ggX11_makers_X11_gapAt
set_option maxRecDepth 20000 in
theorem ggX11_makers_X11_isEcho : GoodIn wsX11_makers wsX11_isEcho := goodIn_r _ [38, 11, 2, 39, 40, 41, 42, 43, 44, 45, 46, 47, 48, 49, 50, 51, 52, 53, 54, 55, 56, 57, 58, 59, 60, 61, 62, 63, 64, 65, 66, 67, 68] (by decide +kernel) (by decide +kernel)
set_option maxRecDepth 20000 in
theorem gX11_makers_X11_isEcho : GoodIn wsX11_makers (wsV RX11 233 RX11 yX11_isEcho wsX11_isEcho) := goodIn_app (goodIn_of _ (by decide +kernel)) ggX11_makers_X11_isEcho
set_option maxRecDepth 20000 in
theorem ggX11_makers_X11_isSeen : GoodIn wsX11_makers wsX11_isSeen := goodIn_r _ [27, 2, 16, 17, 18, 5, 19, 20, 21, 22, 23, 28, 29, 30, 31, 32, 33, 34, 12, 13, 14, 15, 39, 40, 41, 42, 43, 44, 45, 46, 47, 48, 49, 50, 51, 52, 53, 54, 55, 56, 57, 58, 59, 60, 61, 62, 63, 64, 65, 66, 67, 68] (by decide +kernel) (by decide +kernel)
set_option maxRecDepth 20000 in
theorem gX11_makers_X11_isSeen : GoodIn wsX11_makers (wsV RX11 230 RX11 yX11_isSeen wsX11_isSeen) := goodIn_app (goodIn_of _ (by decide +kernel)) ggX11_makers_X11_isSeen
set_option maxRecDepth 20000 in
theorem ggX11_makers_X11_rangeOf : GoodIn wsX11_makers wsX11_rangeOf := goodIn_r _ [15, 16, 17, 18, 5, 19, 2, 39, 40, 41, 42, 43, 44, 45, 46, 47, 48, 49, 50, 51, 52, 53, 54, 55, 56, 57, 58, 59, 60, 61, 62, 63, 64, 65, 66, 67, 68] (by decide +kernel) (by decide +kernel)
set_option maxRecDepth 20000 in
theorem gX11_makers_X11_rangeOf : GoodIn wsX11_makers (wsV RX11 227 RX11 yX11_rangeOf wsX11_rangeOf) := goodIn_app (goodIn_of _ (by decide +kernel)) ggX11_makers_X11_rangeOf
theorem dX11_makers_0 : decode cX11_makers 0 = .ok (.aload_n 0, 1) := by decide +kernel
theorem dX11_makers_1 : decode cX11_makers 1 = .ok (.iconst 0, 1) := by decide +kernel
theorem dX11_makers_2 : decode cX11_makers 2 = .ok (.putfield 66, 3) := by decide +kernel
theorem dX11_makers_5 : decode cX11_makers 5 = .ok (.iload_n 1, 1) := by decide +kernel
theorem dX11_makers_6 : decode cX11_makers 6 = .ok (.iconst 0, 1) := by decide +kernel
theorem dX11_makers_7 : decode cX11_makers 7 = .ok (.sipush 9999, 3) := by decide +kernel
theorem dX11_makers_10 : decode cX11_makers 10 = .ok (.invokestatic 70, 3) := by decide +kernel
theorem dX11_makers_13 : decode cX11_makers 13 = .ok (.ifCond .ne 5, 3) := by decide +kernel
theorem dX11_makers_16 : decode cX11_makers 16 = .ok (.iconst (-1), 1) := by decide +kernel
theorem dX11_makers_17 : decode cX11_makers 17 = .ok (.ireturn, 1) := by decide +kernel
theorem dX11_makers_18 : decode cX11_makers 18 = .ok (.aload_n 0, 1) := by decide +kernel
theorem dX11_makers_19 : decode cX11_makers 19 = .ok (.invokevirtual 245, 3) := by decide +kernel
theorem dX11_makers_22 : decode cX11_makers 22 = .ok (.iconst 0, 1) := by decide +kernel
theorem dX11_makers_23 : decode cX11_makers 23 = .ok (.istore_n 2, 1) := by decide +kernel
theorem dX11_makers_24 : decode cX11_makers 24 = .ok (.iconst 0, 1) := by decide +kernel
theorem dX11_makers_25 : decode cX11_makers 25 = .ok (.istore_n 3, 1) := by decide +kernel
theorem dX11_makers_26 : decode cX11_makers 26 = .ok (.iload_n 3, 1) := by decide +kernel
theorem dX11_makers_27 : decode cX11_makers 27 = .ok (.aload_n 0, 1) := by decide +kernel
theorem dX11_makers_28 : decode cX11_makers 28 = .ok (.getfield 7, 3) := by decide +kernel
theorem dX11_makers_31 : decode cX11_makers 31 = .ok (.iconst 0, 1) := by decide +kernel
theorem dX11_makers_32 : decode cX11_makers 32 = .ok (.iaload, 1) := by decide +kernel
theorem dX11_makers_33 : decode cX11_makers 33 = .ok (.if_icmp .ge 87, 3) := by decide +kernel
theorem dX11_makers_36 : decode cX11_makers 36 = .ok (.iload_n 1, 1) := by decide +kernel
theorem dX11_makers_37 : decode cX11_makers 37 = .ok (.aload_n 0, 1) := by decide +kernel
theorem dX11_makers_38 : decode cX11_makers 38 = .ok (.iload_n 3, 1) := by decide +kernel
theorem dX11_makers_39 : decode cX11_makers 39 = .ok (.invokevirtual 185, 3) := by decide +kernel
theorem dX11_makers_42 : decode cX11_makers 42 = .ok (.irem, 1) := by decide +kernel
theorem dX11_makers_43 : decode cX11_makers 43 = .ok (.istore 4, 2) := by decide +kernel
theorem dX11_makers_45 : decode cX11_makers 45 = .ok (.iconst 0, 1) := by decide +kernel
theorem dX11_makers_46 : decode cX11_makers 46 = .ok (.istore 5, 2) := by decide +kernel
theorem dX11_makers_48 : decode cX11_makers 48 = .ok (.iload 5, 2) := by decide +kernel
theorem dX11_makers_50 : decode cX11_makers 50 = .ok (.aload_n 0, 1) := by decide +kernel
theorem dX11_makers_51 : decode cX11_makers 51 = .ok (.getfield 7, 3) := by decide +kernel
theorem dX11_makers_54 : decode cX11_makers 54 = .ok (.bipush 13, 2) := by decide +kernel
theorem dX11_makers_56 : decode cX11_makers 56 = .ok (.iaload, 1) := by decide +kernel
theorem dX11_makers_57 : decode cX11_makers 57 = .ok (.if_icmp .ge 57, 3) := by decide +kernel
theorem dX11_makers_60 : decode cX11_makers 60 = .ok (.aload_n 0, 1) := by decide +kernel
theorem dX11_makers_61 : decode cX11_makers 61 = .ok (.iload_n 3, 1) := by decide +kernel
theorem dX11_makers_62 : decode cX11_makers 62 = .ok (.iload 4, 2) := by decide +kernel
theorem dX11_makers_64 : decode cX11_makers 64 = .ok (.invokevirtual 233, 3) := by decide +kernel
theorem dX11_makers_67 : decode cX11_makers 67 = .ok (.ifCond .eq 47, 3) := by decide +kernel
theorem dX11_makers_70 : decode cX11_makers 70 = .ok (.iload_n 2, 1) := by decide +kernel
theorem dX11_makers_71 : decode cX11_makers 71 = .ok (.aload_n 0, 1) := by decide +kernel
theorem dX11_makers_72 : decode cX11_makers 72 = .ok (.iload 5, 2) := by decide +kernel
theorem dX11_makers_74 : decode cX11_makers 74 = .ok (.iload_n 3, 1) := by decide +kernel
theorem dX11_makers_75 : decode cX11_makers 75 = .ok (.invokevirtual 230, 3) := by decide +kernel
theorem dX11_makers_78 : decode cX11_makers 78 = .ok (.ifCond .eq 27, 3) := by decide +kernel
theorem dX11_makers_81 : decode cX11_makers 81 = .ok (.aload_n 0, 1) := by decide +kernel
theorem dX11_makers_82 : decode cX11_makers 82 = .ok (.iload 5, 2) := by decide +kernel
theorem dX11_makers_84 : decode cX11_makers 84 = .ok (.invokevirtual 227, 3) := by decide +kernel
theorem dX11_makers_87 : decode cX11_makers 87 = .ok (.aload_n 0, 1) := by decide +kernel
theorem dX11_makers_88 : decode cX11_makers 88 = .ok (.iload_n 3, 1) := by decide +kernel
theorem dX11_makers_89 : decode cX11_makers 89 = .ok (.invokevirtual 185, 3) := by decide +kernel
theorem dX11_makers_92 : decode cX11_makers 92 = .ok (.irem, 1) := by decide +kernel
theorem dX11_makers_93 : decode cX11_makers 93 = .ok (.iload 4, 2) := by decide +kernel
theorem dX11_makers_95 : decode cX11_makers 95 = .ok (.if_icmp .ne 10, 3) := by decide +kernel
theorem dX11_makers_98 : decode cX11_makers 98 = .ok (.iconst 1, 1) := by decide +kernel
theorem dX11_makers_99 : decode cX11_makers 99 = .ok (.iload 5, 2) := by decide +kernel
theorem dX11_makers_101 : decode cX11_makers 101 = .ok (.ishl, 1) := by decide +kernel
theorem dX11_makers_102 : decode cX11_makers 102 = .ok (.goto 4, 3) := by decide +kernel
theorem dX11_makers_105 : decode cX11_makers 105 = .ok (.iconst 0, 1) := by decide +kernel
theorem dX11_makers_106 : decode cX11_makers 106 = .ok (.ior, 1) := by decide +kernel
theorem dX11_makers_107 : decode cX11_makers 107 = .ok (.istore_n 2, 1) := by decide +kernel
theorem dX11_makers_108 : decode cX11_makers 108 = .ok (.iinc 5 1, 3) := by decide +kernel
theorem dX11_makers_111 : decode cX11_makers 111 = .ok (.goto (-63), 3) := by decide +kernel
theorem dX11_makers_114 : decode cX11_makers 114 = .ok (.iinc 3 1, 3) := by decide +kernel
theorem dX11_makers_117 : decode cX11_makers 117 = .ok (.goto (-91), 3) := by decide +kernel
theorem dX11_makers_120 : decode cX11_makers 120 = .ok (.iload_n 2, 1) := by decide +kernel
theorem dX11_makers_121 : decode cX11_makers 121 = .ok (.ireturn, 1) := by decide +kernel
set_option maxRecDepth 20000 in
theorem ggX11_picture_X11_laysPicture : GoodIn wsX11_picture wsX11_laysPicture := goodIn_r _ [9, 10, 11, 12, 2, 4, 3, 13, 14, 15, 8, 16, 17, 18, 19, 20, 21, 22, 23, 24, 25, 26, 27, 28, 29, 30, 31, 32, 33, 34, 35, 36, 37, 38, 39, 40, 41, 42, 43, 47, 48, 49, 50, 51, 52, 53, 54, 55, 56, 57, 58, 59, 60, 61, 62, 63, 64, 65, 66, 67, 68, 69, 70, 71, 72, 73, 74, 75, 76] (by decide +kernel) (by decide +kernel)
set_option maxRecDepth 20000 in
theorem gX11_picture_X11_laysPicture : GoodIn wsX11_picture (wsV RX11 203 RX11 yX11_laysPicture wsX11_laysPicture) := goodIn_app (goodIn_of _ (by decide +kernel)) ggX11_picture_X11_laysPicture
set_option maxRecDepth 20000 in
theorem ggX11_picture_X11_in : GoodIn wsX11_picture wsX11_in := goodIn_r _ [46] (by decide +kernel) (by decide +kernel)
set_option maxRecDepth 20000 in
theorem gX11_picture_X11_in : GoodIn wsX11_picture (va_wsS RX11 70 yX11_in wsX11_in) := goodIn_app (goodIn_of _ (by decide +kernel)) ggX11_picture_X11_in
theorem dX11_picture_0 : decode cX11_picture 0 = .ok (.aload_n 0, 1) := by decide +kernel
theorem dX11_picture_1 : decode cX11_picture 1 = .ok (.iconst 0, 1) := by decide +kernel
theorem dX11_picture_2 : decode cX11_picture 2 = .ok (.putfield 66, 3) := by decide +kernel
theorem dX11_picture_5 : decode cX11_picture 5 = .ok (.aload_n 0, 1) := by decide +kernel
theorem dX11_picture_6 : decode cX11_picture 6 = .ok (.invokevirtual 203, 3) := by decide +kernel
theorem dX11_picture_9 : decode cX11_picture 9 = .ok (.iload_n 1, 1) := by decide +kernel
theorem dX11_picture_10 : decode cX11_picture 10 = .ok (.iconst 0, 1) := by decide +kernel
theorem dX11_picture_11 : decode cX11_picture 11 = .ok (.aload_n 0, 1) := by decide +kernel
theorem dX11_picture_12 : decode cX11_picture 12 = .ok (.getfield 206, 3) := by decide +kernel
theorem dX11_picture_15 : decode cX11_picture 15 = .ok (.iconst 1, 1) := by decide +kernel
theorem dX11_picture_16 : decode cX11_picture 16 = .ok (.isub, 1) := by decide +kernel
theorem dX11_picture_17 : decode cX11_picture 17 = .ok (.invokestatic 70, 3) := by decide +kernel
theorem dX11_picture_20 : decode cX11_picture 20 = .ok (.ifCond .ne 7, 3) := by decide +kernel
theorem dX11_picture_23 : decode cX11_picture 23 = .ok (.iconst (-1), 1) := by decide +kernel
theorem dX11_picture_24 : decode cX11_picture 24 = .ok (.goto 22, 3) := by decide +kernel
theorem dX11_picture_27 : decode cX11_picture 27 = .ok (.iload_n 2, 1) := by decide +kernel
theorem dX11_picture_28 : decode cX11_picture 28 = .ok (.ifCond .eq 12, 3) := by decide +kernel
theorem dX11_picture_31 : decode cX11_picture 31 = .ok (.aload_n 0, 1) := by decide +kernel
theorem dX11_picture_32 : decode cX11_picture 32 = .ok (.getfield 33, 3) := by decide +kernel
theorem dX11_picture_35 : decode cX11_picture 35 = .ok (.iload_n 1, 1) := by decide +kernel
theorem dX11_picture_36 : decode cX11_picture 36 = .ok (.iaload, 1) := by decide +kernel
theorem dX11_picture_37 : decode cX11_picture 37 = .ok (.goto 9, 3) := by decide +kernel
theorem dX11_picture_40 : decode cX11_picture 40 = .ok (.aload_n 0, 1) := by decide +kernel
theorem dX11_picture_41 : decode cX11_picture 41 = .ok (.getfield 30, 3) := by decide +kernel
theorem dX11_picture_44 : decode cX11_picture 44 = .ok (.iload_n 1, 1) := by decide +kernel
theorem dX11_picture_45 : decode cX11_picture 45 = .ok (.iaload, 1) := by decide +kernel
theorem dX11_picture_46 : decode cX11_picture 46 = .ok (.ireturn, 1) := by decide +kernel
set_option maxRecDepth 20000 in
theorem ggX11_pairs_X11_in : GoodIn wsX11_pairs wsX11_in := goodIn_r _ [6] (by decide +kernel) (by decide +kernel)
set_option maxRecDepth 20000 in
theorem gX11_pairs_X11_in : GoodIn wsX11_pairs (va_wsS RX11 70 yX11_in wsX11_in) := goodIn_app (goodIn_of _ (by decide +kernel)) ggX11_pairs_X11_in
set_option maxRecDepth 20000 in
theorem ggX11_pairs_X11_laysLoud : GoodIn wsX11_pairs wsX11_laysLoud := goodIn_r _ [10, 11, 2, 12, 13, 14, 5, 15, 16, 17, 18, 19, 20, 21, 22, 23, 24, 25, 26, 27, 28, 29, 30, 31, 32, 33, 34, 58, 59, 60, 61, 62, 63, 64, 65, 66, 67, 68, 69, 70, 71, 72, 73, 74, 75, 76, 77, 78, 79, 80, 81, 82, 83, 84, 85, 86, 87] (by decide +kernel) (by decide +kernel)
set_option maxRecDepth 20000 in
theorem gX11_pairs_X11_laysLoud : GoodIn wsX11_pairs (wsV RX11 245 RX11 yX11_laysLoud wsX11_laysLoud) := goodIn_app (goodIn_of _ (by decide +kernel)) ggX11_pairs_X11_laysLoud
set_option maxRecDepth 20000 in
theorem ggX11_pairs_X11_echoesOf : GoodIn wsX11_pairs wsX11_echoesOf := goodIn_r _ [38, 20, 21, 22, 5, 23, 2, 39, 40, 41, 42, 11, 58, 59, 60, 61, 62, 63, 64, 65, 66, 67, 68, 69, 70, 71, 72, 73, 74, 75, 76, 77, 78, 79, 80, 81, 82, 83, 84, 85, 86, 87] (by decide +kernel) (by decide +kernel)
set_option maxRecDepth 20000 in
theorem gX11_pairs_X11_echoesOf : GoodIn wsX11_pairs (wsV RX11 251 RX11 yX11_echoesOf wsX11_echoesOf) := goodIn_app (goodIn_of _ (by decide +kernel)) ggX11_pairs_X11_echoesOf
set_option maxRecDepth 20000 in
theorem ggX11_pairs_X11_reachOf : GoodIn wsX11_pairs wsX11_reachOf := goodIn_r _ [46, 2, 20, 21, 22, 5, 23, 47, 48, 49, 58, 59, 60, 61, 62, 63, 64, 65, 66, 67, 68, 69, 70, 71, 72, 73, 74, 75, 76, 77, 78, 79, 80, 81, 82, 83, 84, 85, 86, 87] (by decide +kernel) (by decide +kernel)
set_option maxRecDepth 20000 in
theorem gX11_pairs_X11_reachOf : GoodIn wsX11_pairs (wsV RX11 284 RX11 yX11_reachOf wsX11_reachOf) := goodIn_app (goodIn_of _ (by decide +kernel)) ggX11_pairs_X11_reachOf
set_option maxRecDepth 20000 in
theorem ggX11_pairs_X11_hitBits : GoodIn wsX11_pairs wsX11_hitBits := goodIn_r _ [53, 2, 20, 21, 22, 5, 23, 39, 40, 41, 42, 11, 58, 59, 60, 61, 62, 63, 64, 65, 66, 67, 68, 69, 70, 71, 72, 73, 74, 75, 76, 77, 78, 79, 80, 81, 82, 83, 84, 85, 86, 87] (by decide +kernel) (by decide +kernel)
set_option maxRecDepth 20000 in
theorem gX11_pairs_X11_hitBits : GoodIn wsX11_pairs (wsV RX11 236 RX11 yX11_hitBits wsX11_hitBits) := goodIn_app (goodIn_of _ (by decide +kernel)) ggX11_pairs_X11_hitBits
set_option maxRecDepth 20000 in
theorem ggX11_pairs_X11_isRange : GoodIn wsX11_pairs wsX11_isRange := goodIn_r _ [57, 2, 12, 13, 14, 5, 15, 16, 17, 18, 19, 58, 59, 60, 61, 62, 63, 64, 65, 66, 67, 68, 69, 70, 71, 72, 73, 74, 75, 76, 77, 78, 79, 80, 81, 82, 83, 84, 85, 86, 87] (by decide +kernel) (by decide +kernel)
set_option maxRecDepth 20000 in
theorem gX11_pairs_X11_isRange : GoodIn wsX11_pairs (wsV RX11 242 RX11 yX11_isRange wsX11_isRange) := goodIn_app (goodIn_of _ (by decide +kernel)) ggX11_pairs_X11_isRange
theorem dX11_pairs_0 : decode cX11_pairs 0 = .ok (.aload_n 0, 1) := by decide +kernel
theorem dX11_pairs_1 : decode cX11_pairs 1 = .ok (.iconst 0, 1) := by decide +kernel
theorem dX11_pairs_2 : decode cX11_pairs 2 = .ok (.putfield 66, 3) := by decide +kernel
theorem dX11_pairs_5 : decode cX11_pairs 5 = .ok (.iload_n 1, 1) := by decide +kernel
theorem dX11_pairs_6 : decode cX11_pairs 6 = .ok (.iconst 0, 1) := by decide +kernel
theorem dX11_pairs_7 : decode cX11_pairs 7 = .ok (.iconst 2, 1) := by decide +kernel
theorem dX11_pairs_8 : decode cX11_pairs 8 = .ok (.invokestatic 70, 3) := by decide +kernel
theorem dX11_pairs_11 : decode cX11_pairs 11 = .ok (.ifCond .ne 5, 3) := by decide +kernel
theorem dX11_pairs_14 : decode cX11_pairs 14 = .ok (.iconst (-1), 1) := by decide +kernel
theorem dX11_pairs_15 : decode cX11_pairs 15 = .ok (.ireturn, 1) := by decide +kernel
theorem dX11_pairs_16 : decode cX11_pairs 16 = .ok (.aload_n 0, 1) := by decide +kernel
theorem dX11_pairs_17 : decode cX11_pairs 17 = .ok (.invokevirtual 245, 3) := by decide +kernel
theorem dX11_pairs_20 : decode cX11_pairs 20 = .ok (.aload_n 0, 1) := by decide +kernel
theorem dX11_pairs_21 : decode cX11_pairs 21 = .ok (.getfield 7, 3) := by decide +kernel
theorem dX11_pairs_24 : decode cX11_pairs 24 = .ok (.iconst 0, 1) := by decide +kernel
theorem dX11_pairs_25 : decode cX11_pairs 25 = .ok (.iaload, 1) := by decide +kernel
theorem dX11_pairs_26 : decode cX11_pairs 26 = .ok (.ifCond .ne 7, 3) := by decide +kernel
theorem dX11_pairs_29 : decode cX11_pairs 29 = .ok (.iconst 0, 1) := by decide +kernel
theorem dX11_pairs_30 : decode cX11_pairs 30 = .ok (.goto 4, 3) := by decide +kernel
theorem dX11_pairs_33 : decode cX11_pairs 33 = .ok (.iconst 1, 1) := by decide +kernel
theorem dX11_pairs_34 : decode cX11_pairs 34 = .ok (.istore_n 2, 1) := by decide +kernel
theorem dX11_pairs_35 : decode cX11_pairs 35 = .ok (.iconst 0, 1) := by decide +kernel
theorem dX11_pairs_36 : decode cX11_pairs 36 = .ok (.istore_n 3, 1) := by decide +kernel
theorem dX11_pairs_37 : decode cX11_pairs 37 = .ok (.iload_n 3, 1) := by decide +kernel
theorem dX11_pairs_38 : decode cX11_pairs 38 = .ok (.aload_n 0, 1) := by decide +kernel
theorem dX11_pairs_39 : decode cX11_pairs 39 = .ok (.getfield 7, 3) := by decide +kernel
theorem dX11_pairs_42 : decode cX11_pairs 42 = .ok (.iconst 0, 1) := by decide +kernel
theorem dX11_pairs_43 : decode cX11_pairs 43 = .ok (.iaload, 1) := by decide +kernel
theorem dX11_pairs_44 : decode cX11_pairs 44 = .ok (.if_icmp .ge 17, 3) := by decide +kernel
theorem dX11_pairs_47 : decode cX11_pairs 47 = .ok (.iload_n 2, 1) := by decide +kernel
theorem dX11_pairs_48 : decode cX11_pairs 48 = .ok (.aload_n 0, 1) := by decide +kernel
theorem dX11_pairs_49 : decode cX11_pairs 49 = .ok (.iload_n 3, 1) := by decide +kernel
theorem dX11_pairs_50 : decode cX11_pairs 50 = .ok (.invokevirtual 251, 3) := by decide +kernel
theorem dX11_pairs_53 : decode cX11_pairs 53 = .ok (.imul, 1) := by decide +kernel
theorem dX11_pairs_54 : decode cX11_pairs 54 = .ok (.istore_n 2, 1) := by decide +kernel
theorem dX11_pairs_55 : decode cX11_pairs 55 = .ok (.iinc 3 1, 3) := by decide +kernel
theorem dX11_pairs_58 : decode cX11_pairs 58 = .ok (.goto (-21), 3) := by decide +kernel
theorem dX11_pairs_61 : decode cX11_pairs 61 = .ok (.iload_n 1, 1) := by decide +kernel
theorem dX11_pairs_62 : decode cX11_pairs 62 = .ok (.ifCond .eq 7, 3) := by decide +kernel
theorem dX11_pairs_65 : decode cX11_pairs 65 = .ok (.iload_n 2, 1) := by decide +kernel
theorem dX11_pairs_66 : decode cX11_pairs 66 = .ok (.ifCond .ne 5, 3) := by decide +kernel
theorem dX11_pairs_69 : decode cX11_pairs 69 = .ok (.iload_n 2, 1) := by decide +kernel
theorem dX11_pairs_70 : decode cX11_pairs 70 = .ok (.ireturn, 1) := by decide +kernel
theorem dX11_pairs_71 : decode cX11_pairs 71 = .ok (.iconst 1, 1) := by decide +kernel
theorem dX11_pairs_72 : decode cX11_pairs 72 = .ok (.aload_n 0, 1) := by decide +kernel
theorem dX11_pairs_73 : decode cX11_pairs 73 = .ok (.getfield 7, 3) := by decide +kernel
theorem dX11_pairs_76 : decode cX11_pairs 76 = .ok (.iconst 0, 1) := by decide +kernel
theorem dX11_pairs_77 : decode cX11_pairs 77 = .ok (.iaload, 1) := by decide +kernel
theorem dX11_pairs_78 : decode cX11_pairs 78 = .ok (.ishl, 1) := by decide +kernel
theorem dX11_pairs_79 : decode cX11_pairs 79 = .ok (.iconst 1, 1) := by decide +kernel
theorem dX11_pairs_80 : decode cX11_pairs 80 = .ok (.isub, 1) := by decide +kernel
theorem dX11_pairs_81 : decode cX11_pairs 81 = .ok (.istore_n 3, 1) := by decide +kernel
theorem dX11_pairs_82 : decode cX11_pairs 82 = .ok (.aload_n 0, 1) := by decide +kernel
theorem dX11_pairs_83 : decode cX11_pairs 83 = .ok (.iload_n 3, 1) := by decide +kernel
theorem dX11_pairs_84 : decode cX11_pairs 84 = .ok (.invokevirtual 284, 3) := by decide +kernel
theorem dX11_pairs_87 : decode cX11_pairs 87 = .ok (.lstore 4, 2) := by decide +kernel
theorem dX11_pairs_89 : decode cX11_pairs 89 = .ok (.iconst 0, 1) := by decide +kernel
theorem dX11_pairs_90 : decode cX11_pairs 90 = .ok (.istore 6, 2) := by decide +kernel
theorem dX11_pairs_92 : decode cX11_pairs 92 = .ok (.iconst 0, 1) := by decide +kernel
theorem dX11_pairs_93 : decode cX11_pairs 93 = .ok (.istore 7, 2) := by decide +kernel
theorem dX11_pairs_95 : decode cX11_pairs 95 = .ok (.iload 7, 2) := by decide +kernel
theorem dX11_pairs_97 : decode cX11_pairs 97 = .ok (.aload_n 0, 1) := by decide +kernel
theorem dX11_pairs_98 : decode cX11_pairs 98 = .ok (.getfield 7, 3) := by decide +kernel
theorem dX11_pairs_101 : decode cX11_pairs 101 = .ok (.bipush 9, 2) := by decide +kernel
theorem dX11_pairs_103 : decode cX11_pairs 103 = .ok (.iaload, 1) := by decide +kernel
theorem dX11_pairs_104 : decode cX11_pairs 104 = .ok (.if_icmp .ge 52, 3) := by decide +kernel
theorem dX11_pairs_107 : decode cX11_pairs 107 = .ok (.iload 7, 2) := by decide +kernel
theorem dX11_pairs_109 : decode cX11_pairs 109 = .ok (.i2l, 1) := by decide +kernel
theorem dX11_pairs_110 : decode cX11_pairs 110 = .ok (.lload 4, 2) := by decide +kernel
theorem dX11_pairs_112 : decode cX11_pairs 112 = .ok (.lcmp, 1) := by decide +kernel
theorem dX11_pairs_113 : decode cX11_pairs 113 = .ok (.ifCond .ge 43, 3) := by decide +kernel
theorem dX11_pairs_116 : decode cX11_pairs 116 = .ok (.iload 6, 2) := by decide +kernel
theorem dX11_pairs_118 : decode cX11_pairs 118 = .ok (.aload_n 0, 1) := by decide +kernel
theorem dX11_pairs_119 : decode cX11_pairs 119 = .ok (.iload 7, 2) := by decide +kernel
theorem dX11_pairs_121 : decode cX11_pairs 121 = .ok (.invokevirtual 236, 3) := by decide +kernel
theorem dX11_pairs_124 : decode cX11_pairs 124 = .ok (.iload_n 3, 1) := by decide +kernel
theorem dX11_pairs_125 : decode cX11_pairs 125 = .ok (.if_icmp .ne 21, 3) := by decide +kernel
theorem dX11_pairs_128 : decode cX11_pairs 128 = .ok (.iload_n 1, 1) := by decide +kernel
theorem dX11_pairs_129 : decode cX11_pairs 129 = .ok (.iconst 2, 1) := by decide +kernel
theorem dX11_pairs_130 : decode cX11_pairs 130 = .ok (.if_icmp .ne 12, 3) := by decide +kernel
theorem dX11_pairs_133 : decode cX11_pairs 133 = .ok (.aload_n 0, 1) := by decide +kernel
theorem dX11_pairs_134 : decode cX11_pairs 134 = .ok (.iload 7, 2) := by decide +kernel
theorem dX11_pairs_136 : decode cX11_pairs 136 = .ok (.invokevirtual 242, 3) := by decide +kernel
theorem dX11_pairs_139 : decode cX11_pairs 139 = .ok (.ifCond .ne 7, 3) := by decide +kernel
theorem dX11_pairs_142 : decode cX11_pairs 142 = .ok (.iconst 1, 1) := by decide +kernel
theorem dX11_pairs_143 : decode cX11_pairs 143 = .ok (.goto 4, 3) := by decide +kernel
theorem dX11_pairs_146 : decode cX11_pairs 146 = .ok (.iconst 0, 1) := by decide +kernel
theorem dX11_pairs_147 : decode cX11_pairs 147 = .ok (.iadd, 1) := by decide +kernel
theorem dX11_pairs_148 : decode cX11_pairs 148 = .ok (.istore 6, 2) := by decide +kernel
theorem dX11_pairs_150 : decode cX11_pairs 150 = .ok (.iinc 7 1, 3) := by decide +kernel
theorem dX11_pairs_153 : decode cX11_pairs 153 = .ok (.goto (-58), 3) := by decide +kernel
theorem dX11_pairs_156 : decode cX11_pairs 156 = .ok (.iload 6, 2) := by decide +kernel
theorem dX11_pairs_158 : decode cX11_pairs 158 = .ok (.ireturn, 1) := by decide +kernel
set_option maxRecDepth 20000 in
theorem ggX11_numberAt_X11_lookAt : GoodIn wsX11_numberAt wsX11_lookAt := goodIn_r _ [6, 7, 8, 9, 10, 11, 12, 13, 14, 15, 16, 17, 18, 19, 20, 21, 22, 23, 24, 25, 26, 27, 28, 29, 30, 31, 32, 33, 34, 35, 36, 37] (by decide +kernel) (by decide +kernel)
set_option maxRecDepth 20000 in
theorem gX11_numberAt_X11_lookAt : GoodIn wsX11_numberAt (wsV RX11 200 RX11 yX11_lookAt wsX11_lookAt) := goodIn_app (goodIn_of _ (by decide +kernel)) ggX11_numberAt_X11_lookAt
theorem dX11_numberAt_0 : decode cX11_numberAt 0 = .ok (.aload_n 0, 1) := by decide +kernel
theorem dX11_numberAt_1 : decode cX11_numberAt 1 = .ok (.iload_n 1, 1) := by decide +kernel
theorem dX11_numberAt_2 : decode cX11_numberAt 2 = .ok (.iconst 2, 1) := by decide +kernel
theorem dX11_numberAt_3 : decode cX11_numberAt 3 = .ok (.aload_n 0, 1) := by decide +kernel
theorem dX11_numberAt_4 : decode cX11_numberAt 4 = .ok (.getfield 42, 3) := by decide +kernel
theorem dX11_numberAt_7 : decode cX11_numberAt 7 = .ok (.iload_n 1, 1) := by decide +kernel
theorem dX11_numberAt_8 : decode cX11_numberAt 8 = .ok (.iaload, 1) := by decide +kernel
theorem dX11_numberAt_9 : decode cX11_numberAt 9 = .ok (.iadd, 1) := by decide +kernel
theorem dX11_numberAt_10 : decode cX11_numberAt 10 = .ok (.invokevirtual 200, 3) := by decide +kernel
theorem dX11_numberAt_13 : decode cX11_numberAt 13 = .ok (.ireturn, 1) := by decide +kernel
set_option maxRecDepth 20000 in
theorem ggX11_isTrack_X11_lookAt : GoodIn wsX11_isTrack wsX11_lookAt := goodIn_r _ [6, 1, 12, 13, 14, 15, 16, 17, 18, 19, 20, 21, 22, 23, 24, 25, 26, 27, 28, 29, 30, 31, 32, 33, 34, 35, 36, 37, 38, 39, 40, 41] (by decide +kernel) (by decide +kernel)
set_option maxRecDepth 20000 in
theorem gX11_isTrack_X11_lookAt : GoodIn wsX11_isTrack (wsV RX11 200 RX11 yX11_lookAt wsX11_lookAt) := goodIn_app (goodIn_of _ (by decide +kernel)) ggX11_isTrack_X11_lookAt
set_option maxRecDepth 20000 in
theorem ggX11_isTrack_X11_numberAt : GoodIn wsX11_isTrack wsX11_numberAt := goodIn_r _ [10, 11, 2, 3, 4, 5, 6, 1, 12, 13, 14, 15, 16, 17, 18, 19, 20, 21, 22, 23, 24, 25, 26, 27, 28, 29, 30, 31, 32, 33, 34, 35, 36, 37, 38, 39, 40, 41] (by decide +kernel) (by decide +kernel)
set_option maxRecDepth 20000 in
theorem gX11_isTrack_X11_numberAt : GoodIn wsX11_isTrack (wsV RX11 288 RX11 yX11_numberAt wsX11_numberAt) := goodIn_app (goodIn_of _ (by decide +kernel)) ggX11_isTrack_X11_numberAt
theorem dX11_isTrack_0 : decode cX11_isTrack 0 = .ok (.aload_n 0, 1) := by decide +kernel
theorem dX11_isTrack_1 : decode cX11_isTrack 1 = .ok (.getfield 7, 3) := by decide +kernel
theorem dX11_isTrack_4 : decode cX11_isTrack 4 = .ok (.bipush 40, 2) := by decide +kernel
theorem dX11_isTrack_6 : decode cX11_isTrack 6 = .ok (.iaload, 1) := by decide +kernel
theorem dX11_isTrack_7 : decode cX11_isTrack 7 = .ok (.iconst 1, 1) := by decide +kernel
theorem dX11_isTrack_8 : decode cX11_isTrack 8 = .ok (.isub, 1) := by decide +kernel
theorem dX11_isTrack_9 : decode cX11_isTrack 9 = .ok (.istore_n 1, 1) := by decide +kernel
theorem dX11_isTrack_10 : decode cX11_isTrack 10 = .ok (.aload_n 0, 1) := by decide +kernel
theorem dX11_isTrack_11 : decode cX11_isTrack 11 = .ok (.iload_n 1, 1) := by decide +kernel
theorem dX11_isTrack_12 : decode cX11_isTrack 12 = .ok (.iconst 0, 1) := by decide +kernel
theorem dX11_isTrack_13 : decode cX11_isTrack 13 = .ok (.invokevirtual 200, 3) := by decide +kernel
theorem dX11_isTrack_16 : decode cX11_isTrack 16 = .ok (.aload_n 0, 1) := by decide +kernel
theorem dX11_isTrack_17 : decode cX11_isTrack 17 = .ok (.iconst 0, 1) := by decide +kernel
theorem dX11_isTrack_18 : decode cX11_isTrack 18 = .ok (.iconst 0, 1) := by decide +kernel
theorem dX11_isTrack_19 : decode cX11_isTrack 19 = .ok (.invokevirtual 200, 3) := by decide +kernel
theorem dX11_isTrack_22 : decode cX11_isTrack 22 = .ok (.isub, 1) := by decide +kernel
theorem dX11_isTrack_23 : decode cX11_isTrack 23 = .ok (.i2l, 1) := by decide +kernel
theorem dX11_isTrack_24 : decode cX11_isTrack 24 = .ok (.lstore_n 2, 1) := by decide +kernel
theorem dX11_isTrack_25 : decode cX11_isTrack 25 = .ok (.aload_n 0, 1) := by decide +kernel
theorem dX11_isTrack_26 : decode cX11_isTrack 26 = .ok (.iload_n 1, 1) := by decide +kernel
theorem dX11_isTrack_27 : decode cX11_isTrack 27 = .ok (.invokevirtual 288, 3) := by decide +kernel
theorem dX11_isTrack_30 : decode cX11_isTrack 30 = .ok (.aload_n 0, 1) := by decide +kernel
theorem dX11_isTrack_31 : decode cX11_isTrack 31 = .ok (.iconst 0, 1) := by decide +kernel
theorem dX11_isTrack_32 : decode cX11_isTrack 32 = .ok (.invokevirtual 288, 3) := by decide +kernel
theorem dX11_isTrack_35 : decode cX11_isTrack 35 = .ok (.isub, 1) := by decide +kernel
theorem dX11_isTrack_36 : decode cX11_isTrack 36 = .ok (.i2l, 1) := by decide +kernel
theorem dX11_isTrack_37 : decode cX11_isTrack 37 = .ok (.lstore 4, 2) := by decide +kernel
theorem dX11_isTrack_39 : decode cX11_isTrack 39 = .ok (.iconst 0, 1) := by decide +kernel
theorem dX11_isTrack_40 : decode cX11_isTrack 40 = .ok (.istore 6, 2) := by decide +kernel
theorem dX11_isTrack_42 : decode cX11_isTrack 42 = .ok (.iload 6, 2) := by decide +kernel
theorem dX11_isTrack_44 : decode cX11_isTrack 44 = .ok (.iload_n 1, 1) := by decide +kernel
theorem dX11_isTrack_45 : decode cX11_isTrack 45 = .ok (.if_icmp .gt 67, 3) := by decide +kernel
theorem dX11_isTrack_48 : decode cX11_isTrack 48 = .ok (.aload_n 0, 1) := by decide +kernel
theorem dX11_isTrack_49 : decode cX11_isTrack 49 = .ok (.iload 6, 2) := by decide +kernel
theorem dX11_isTrack_51 : decode cX11_isTrack 51 = .ok (.invokevirtual 288, 3) := by decide +kernel
theorem dX11_isTrack_54 : decode cX11_isTrack 54 = .ok (.aload_n 0, 1) := by decide +kernel
theorem dX11_isTrack_55 : decode cX11_isTrack 55 = .ok (.iconst 0, 1) := by decide +kernel
theorem dX11_isTrack_56 : decode cX11_isTrack 56 = .ok (.invokevirtual 288, 3) := by decide +kernel
theorem dX11_isTrack_59 : decode cX11_isTrack 59 = .ok (.isub, 1) := by decide +kernel
theorem dX11_isTrack_60 : decode cX11_isTrack 60 = .ok (.i2l, 1) := by decide +kernel
theorem dX11_isTrack_61 : decode cX11_isTrack 61 = .ok (.lload_n 2, 1) := by decide +kernel
theorem dX11_isTrack_62 : decode cX11_isTrack 62 = .ok (.lmul, 1) := by decide +kernel
theorem dX11_isTrack_63 : decode cX11_isTrack 63 = .ok (.lload 4, 2) := by decide +kernel
theorem dX11_isTrack_65 : decode cX11_isTrack 65 = .ok (.aload_n 0, 1) := by decide +kernel
theorem dX11_isTrack_66 : decode cX11_isTrack 66 = .ok (.iload 6, 2) := by decide +kernel
theorem dX11_isTrack_68 : decode cX11_isTrack 68 = .ok (.iconst 0, 1) := by decide +kernel
theorem dX11_isTrack_69 : decode cX11_isTrack 69 = .ok (.invokevirtual 200, 3) := by decide +kernel
theorem dX11_isTrack_72 : decode cX11_isTrack 72 = .ok (.aload_n 0, 1) := by decide +kernel
theorem dX11_isTrack_73 : decode cX11_isTrack 73 = .ok (.iconst 0, 1) := by decide +kernel
theorem dX11_isTrack_74 : decode cX11_isTrack 74 = .ok (.iconst 0, 1) := by decide +kernel
theorem dX11_isTrack_75 : decode cX11_isTrack 75 = .ok (.invokevirtual 200, 3) := by decide +kernel
theorem dX11_isTrack_78 : decode cX11_isTrack 78 = .ok (.isub, 1) := by decide +kernel
theorem dX11_isTrack_79 : decode cX11_isTrack 79 = .ok (.i2l, 1) := by decide +kernel
theorem dX11_isTrack_80 : decode cX11_isTrack 80 = .ok (.lmul, 1) := by decide +kernel
theorem dX11_isTrack_81 : decode cX11_isTrack 81 = .ok (.lsub, 1) := by decide +kernel
theorem dX11_isTrack_82 : decode cX11_isTrack 82 = .ok (.lstore 7, 2) := by decide +kernel
theorem dX11_isTrack_84 : decode cX11_isTrack 84 = .ok (.lload 7, 2) := by decide +kernel
theorem dX11_isTrack_86 : decode cX11_isTrack 86 = .ok (.lconst 0, 1) := by decide +kernel
theorem dX11_isTrack_87 : decode cX11_isTrack 87 = .ok (.lcmp, 1) := by decide +kernel
theorem dX11_isTrack_88 : decode cX11_isTrack 88 = .ok (.ifCond .ge 9, 3) := by decide +kernel
theorem dX11_isTrack_91 : decode cX11_isTrack 91 = .ok (.lload 7, 2) := by decide +kernel
theorem dX11_isTrack_93 : decode cX11_isTrack 93 = .ok (.lneg, 1) := by decide +kernel
theorem dX11_isTrack_94 : decode cX11_isTrack 94 = .ok (.goto 5, 3) := by decide +kernel
theorem dX11_isTrack_97 : decode cX11_isTrack 97 = .ok (.lload 7, 2) := by decide +kernel
theorem dX11_isTrack_99 : decode cX11_isTrack 99 = .ok (.lload_n 2, 1) := by decide +kernel
theorem dX11_isTrack_100 : decode cX11_isTrack 100 = .ok (.lcmp, 1) := by decide +kernel
theorem dX11_isTrack_101 : decode cX11_isTrack 101 = .ok (.ifCond .le 5, 3) := by decide +kernel
theorem dX11_isTrack_104 : decode cX11_isTrack 104 = .ok (.iconst 0, 1) := by decide +kernel
theorem dX11_isTrack_105 : decode cX11_isTrack 105 = .ok (.ireturn, 1) := by decide +kernel
theorem dX11_isTrack_106 : decode cX11_isTrack 106 = .ok (.iinc 6 1, 3) := by decide +kernel
theorem dX11_isTrack_109 : decode cX11_isTrack 109 = .ok (.goto (-67), 3) := by decide +kernel
theorem dX11_isTrack_112 : decode cX11_isTrack 112 = .ok (.iconst 1, 1) := by decide +kernel
theorem dX11_isTrack_113 : decode cX11_isTrack 113 = .ok (.ireturn, 1) := by decide +kernel
set_option maxRecDepth 20000 in
theorem ggX11_goesOn_X11_lookAt : GoodIn wsX11_goesOn wsX11_lookAt := goodIn_r _ [7, 1, 8, 9, 10, 11, 12, 13, 14, 15, 16, 17, 18, 19, 20, 21, 22, 23, 24, 25, 26, 27, 28, 29, 30, 31, 32, 33, 34, 35, 36, 37] (by decide +kernel) (by decide +kernel)
set_option maxRecDepth 20000 in
theorem gX11_goesOn_X11_lookAt : GoodIn wsX11_goesOn (wsV RX11 200 RX11 yX11_lookAt wsX11_lookAt) := goodIn_app (goodIn_of _ (by decide +kernel)) ggX11_goesOn_X11_lookAt
theorem dX11_goesOn_0 : decode cX11_goesOn 0 = .ok (.aload_n 0, 1) := by decide +kernel
theorem dX11_goesOn_1 : decode cX11_goesOn 1 = .ok (.getfield 7, 3) := by decide +kernel
theorem dX11_goesOn_4 : decode cX11_goesOn 4 = .ok (.bipush 40, 2) := by decide +kernel
theorem dX11_goesOn_6 : decode cX11_goesOn 6 = .ok (.iaload, 1) := by decide +kernel
theorem dX11_goesOn_7 : decode cX11_goesOn 7 = .ok (.iconst 1, 1) := by decide +kernel
theorem dX11_goesOn_8 : decode cX11_goesOn 8 = .ok (.isub, 1) := by decide +kernel
theorem dX11_goesOn_9 : decode cX11_goesOn 9 = .ok (.istore_n 1, 1) := by decide +kernel
theorem dX11_goesOn_10 : decode cX11_goesOn 10 = .ok (.iload_n 1, 1) := by decide +kernel
theorem dX11_goesOn_11 : decode cX11_goesOn 11 = .ok (.ifCond .lt 43, 3) := by decide +kernel
theorem dX11_goesOn_14 : decode cX11_goesOn 14 = .ok (.aload_n 0, 1) := by decide +kernel
theorem dX11_goesOn_15 : decode cX11_goesOn 15 = .ok (.getfield 42, 3) := by decide +kernel
theorem dX11_goesOn_18 : decode cX11_goesOn 18 = .ok (.iload_n 1, 1) := by decide +kernel
theorem dX11_goesOn_19 : decode cX11_goesOn 19 = .ok (.dup2, 1) := by decide +kernel
theorem dX11_goesOn_20 : decode cX11_goesOn 20 = .ok (.iaload, 1) := by decide +kernel
theorem dX11_goesOn_21 : decode cX11_goesOn 21 = .ok (.iconst 1, 1) := by decide +kernel
theorem dX11_goesOn_22 : decode cX11_goesOn 22 = .ok (.iadd, 1) := by decide +kernel
theorem dX11_goesOn_23 : decode cX11_goesOn 23 = .ok (.iastore, 1) := by decide +kernel
theorem dX11_goesOn_24 : decode cX11_goesOn 24 = .ok (.aload_n 0, 1) := by decide +kernel
theorem dX11_goesOn_25 : decode cX11_goesOn 25 = .ok (.getfield 42, 3) := by decide +kernel
theorem dX11_goesOn_28 : decode cX11_goesOn 28 = .ok (.iload_n 1, 1) := by decide +kernel
theorem dX11_goesOn_29 : decode cX11_goesOn 29 = .ok (.iaload, 1) := by decide +kernel
theorem dX11_goesOn_30 : decode cX11_goesOn 30 = .ok (.aload_n 0, 1) := by decide +kernel
theorem dX11_goesOn_31 : decode cX11_goesOn 31 = .ok (.iload_n 1, 1) := by decide +kernel
theorem dX11_goesOn_32 : decode cX11_goesOn 32 = .ok (.iconst 1, 1) := by decide +kernel
theorem dX11_goesOn_33 : decode cX11_goesOn 33 = .ok (.invokevirtual 200, 3) := by decide +kernel
theorem dX11_goesOn_36 : decode cX11_goesOn 36 = .ok (.if_icmp .ge 5, 3) := by decide +kernel
theorem dX11_goesOn_39 : decode cX11_goesOn 39 = .ok (.iconst 1, 1) := by decide +kernel
theorem dX11_goesOn_40 : decode cX11_goesOn 40 = .ok (.ireturn, 1) := by decide +kernel
theorem dX11_goesOn_41 : decode cX11_goesOn 41 = .ok (.aload_n 0, 1) := by decide +kernel
theorem dX11_goesOn_42 : decode cX11_goesOn 42 = .ok (.getfield 42, 3) := by decide +kernel
theorem dX11_goesOn_45 : decode cX11_goesOn 45 = .ok (.iload_n 1, 1) := by decide +kernel
theorem dX11_goesOn_46 : decode cX11_goesOn 46 = .ok (.iconst 0, 1) := by decide +kernel
theorem dX11_goesOn_47 : decode cX11_goesOn 47 = .ok (.iastore, 1) := by decide +kernel
theorem dX11_goesOn_48 : decode cX11_goesOn 48 = .ok (.iinc 1 (-1), 3) := by decide +kernel
theorem dX11_goesOn_51 : decode cX11_goesOn 51 = .ok (.goto (-41), 3) := by decide +kernel
theorem dX11_goesOn_54 : decode cX11_goesOn 54 = .ok (.iconst 0, 1) := by decide +kernel
theorem dX11_goesOn_55 : decode cX11_goesOn 55 = .ok (.ireturn, 1) := by decide +kernel
set_option maxRecDepth 20000 in
theorem ggX11_track_X11_in : GoodIn wsX11_track wsX11_in := goodIn_r _ [8] (by decide +kernel) (by decide +kernel)
set_option maxRecDepth 20000 in
theorem gX11_track_X11_in : GoodIn wsX11_track (va_wsS RX11 70 yX11_in wsX11_in) := goodIn_app (goodIn_of _ (by decide +kernel)) ggX11_track_X11_in
set_option maxRecDepth 20000 in
theorem ggX11_track_X11_lookAt : GoodIn wsX11_track wsX11_lookAt := goodIn_r _ [12, 2, 25, 26, 27, 28, 29, 30, 31, 32, 33, 34, 35, 36, 37, 38, 39, 40, 41, 42, 43, 44, 45, 46, 47, 48, 49, 50, 51, 52, 53, 54] (by decide +kernel) (by decide +kernel)
set_option maxRecDepth 20000 in
theorem gX11_track_X11_lookAt : GoodIn wsX11_track (wsV RX11 200 RX11 yX11_lookAt wsX11_lookAt) := goodIn_app (goodIn_of _ (by decide +kernel)) ggX11_track_X11_lookAt
set_option maxRecDepth 20000 in
theorem ggX11_track_X11_isTrack : GoodIn wsX11_track wsX11_isTrack := goodIn_r _ [16, 2, 9, 10, 11, 7, 12, 17, 18, 19, 20, 3, 25, 26, 27, 28, 29, 30, 31, 32, 33, 34, 35, 36, 37, 38, 39, 40, 41, 42, 43, 44, 45, 46, 47, 48, 49, 50, 51, 52, 53, 54] (by decide +kernel) (by decide +kernel)
set_option maxRecDepth 20000 in
theorem gX11_track_X11_isTrack : GoodIn wsX11_track (wsV RX11 291 RX11 yX11_isTrack wsX11_isTrack) := goodIn_app (goodIn_of _ (by decide +kernel)) ggX11_track_X11_isTrack
set_option maxRecDepth 20000 in
theorem ggX11_track_X11_numberAt : GoodIn wsX11_track wsX11_numberAt := goodIn_r _ [20, 3, 9, 10, 11, 7, 12, 2, 25, 26, 27, 28, 29, 30, 31, 32, 33, 34, 35, 36, 37, 38, 39, 40, 41, 42, 43, 44, 45, 46, 47, 48, 49, 50, 51, 52, 53, 54] (by decide +kernel) (by decide +kernel)
set_option maxRecDepth 20000 in
theorem gX11_track_X11_numberAt : GoodIn wsX11_track (wsV RX11 288 RX11 yX11_numberAt wsX11_numberAt) := goodIn_app (goodIn_of _ (by decide +kernel)) ggX11_track_X11_numberAt
set_option maxRecDepth 20000 in
theorem ggX11_track_X11_goesOn : GoodIn wsX11_track wsX11_goesOn := goodIn_r _ [24, 2, 3, 9, 10, 11, 7, 12, 25, 26, 27, 28, 29, 30, 31, 32, 33, 34, 35, 36, 37, 38, 39, 40, 41, 42, 43, 44, 45, 46, 47, 48, 49, 50, 51, 52, 53, 54] (by decide +kernel) (by decide +kernel)
set_option maxRecDepth 20000 in
theorem gX11_track_X11_goesOn : GoodIn wsX11_track (wsV RX11 294 RX11 yX11_goesOn wsX11_goesOn) := goodIn_app (goodIn_of _ (by decide +kernel)) ggX11_track_X11_goesOn
theorem dX11_track_0 : decode cX11_track 0 = .ok (.aload_n 0, 1) := by decide +kernel
theorem dX11_track_1 : decode cX11_track 1 = .ok (.iconst 0, 1) := by decide +kernel
theorem dX11_track_2 : decode cX11_track 2 = .ok (.putfield 66, 3) := by decide +kernel
theorem dX11_track_5 : decode cX11_track 5 = .ok (.iload_n 1, 1) := by decide +kernel
theorem dX11_track_6 : decode cX11_track 6 = .ok (.iconst (-1), 1) := by decide +kernel
theorem dX11_track_7 : decode cX11_track 7 = .ok (.if_icmp .ne 11, 3) := by decide +kernel
theorem dX11_track_10 : decode cX11_track 10 = .ok (.iload_n 2, 1) := by decide +kernel
theorem dX11_track_11 : decode cX11_track 11 = .ok (.ifCond .ne 7, 3) := by decide +kernel
theorem dX11_track_14 : decode cX11_track 14 = .ok (.iconst 1, 1) := by decide +kernel
theorem dX11_track_15 : decode cX11_track 15 = .ok (.goto 4, 3) := by decide +kernel
theorem dX11_track_18 : decode cX11_track 18 = .ok (.iconst 0, 1) := by decide +kernel
theorem dX11_track_19 : decode cX11_track 19 = .ok (.istore_n 3, 1) := by decide +kernel
theorem dX11_track_20 : decode cX11_track 20 = .ok (.iload_n 1, 1) := by decide +kernel
theorem dX11_track_21 : decode cX11_track 21 = .ok (.ifCond .lt 30, 3) := by decide +kernel
theorem dX11_track_24 : decode cX11_track 24 = .ok (.iload_n 2, 1) := by decide +kernel
theorem dX11_track_25 : decode cX11_track 25 = .ok (.bipush 10, 2) := by decide +kernel
theorem dX11_track_27 : decode cX11_track 27 = .ok (.if_icmp .eq 20, 3) := by decide +kernel
theorem dX11_track_30 : decode cX11_track 30 = .ok (.iload_n 2, 1) := by decide +kernel
theorem dX11_track_31 : decode cX11_track 31 = .ok (.iconst 0, 1) := by decide +kernel
theorem dX11_track_32 : decode cX11_track 32 = .ok (.aload_n 0, 1) := by decide +kernel
theorem dX11_track_33 : decode cX11_track 33 = .ok (.getfield 7, 3) := by decide +kernel
theorem dX11_track_36 : decode cX11_track 36 = .ok (.bipush 40, 2) := by decide +kernel
theorem dX11_track_38 : decode cX11_track 38 = .ok (.iaload, 1) := by decide +kernel
theorem dX11_track_39 : decode cX11_track 39 = .ok (.iconst 1, 1) := by decide +kernel
theorem dX11_track_40 : decode cX11_track 40 = .ok (.isub, 1) := by decide +kernel
theorem dX11_track_41 : decode cX11_track 41 = .ok (.invokestatic 70, 3) := by decide +kernel
theorem dX11_track_44 : decode cX11_track 44 = .ok (.ifCond .eq 7, 3) := by decide +kernel
theorem dX11_track_47 : decode cX11_track 47 = .ok (.iconst 1, 1) := by decide +kernel
theorem dX11_track_48 : decode cX11_track 48 = .ok (.goto 4, 3) := by decide +kernel
theorem dX11_track_51 : decode cX11_track 51 = .ok (.iconst 0, 1) := by decide +kernel
theorem dX11_track_52 : decode cX11_track 52 = .ok (.istore 4, 2) := by decide +kernel
theorem dX11_track_54 : decode cX11_track 54 = .ok (.aload_n 0, 1) := by decide +kernel
theorem dX11_track_55 : decode cX11_track 55 = .ok (.getfield 7, 3) := by decide +kernel
theorem dX11_track_58 : decode cX11_track 58 = .ok (.bipush 40, 2) := by decide +kernel
theorem dX11_track_60 : decode cX11_track 60 = .ok (.iaload, 1) := by decide +kernel
theorem dX11_track_61 : decode cX11_track 61 = .ok (.iconst 1, 1) := by decide +kernel
theorem dX11_track_62 : decode cX11_track 62 = .ok (.if_icmp .le 7, 3) := by decide +kernel
theorem dX11_track_65 : decode cX11_track 65 = .ok (.iconst 1, 1) := by decide +kernel
theorem dX11_track_66 : decode cX11_track 66 = .ok (.goto 4, 3) := by decide +kernel
theorem dX11_track_69 : decode cX11_track 69 = .ok (.iconst 0, 1) := by decide +kernel
theorem dX11_track_70 : decode cX11_track 70 = .ok (.istore 5, 2) := by decide +kernel
theorem dX11_track_72 : decode cX11_track 72 = .ok (.iconst 0, 1) := by decide +kernel
theorem dX11_track_73 : decode cX11_track 73 = .ok (.istore 6, 2) := by decide +kernel
theorem dX11_track_75 : decode cX11_track 75 = .ok (.iload 6, 2) := by decide +kernel
theorem dX11_track_77 : decode cX11_track 77 = .ok (.aload_n 0, 1) := by decide +kernel
theorem dX11_track_78 : decode cX11_track 78 = .ok (.getfield 7, 3) := by decide +kernel
theorem dX11_track_81 : decode cX11_track 81 = .ok (.bipush 40, 2) := by decide +kernel
theorem dX11_track_83 : decode cX11_track 83 = .ok (.iaload, 1) := by decide +kernel
theorem dX11_track_84 : decode cX11_track 84 = .ok (.if_icmp .ge 39, 3) := by decide +kernel
theorem dX11_track_87 : decode cX11_track 87 = .ok (.aload_n 0, 1) := by decide +kernel
theorem dX11_track_88 : decode cX11_track 88 = .ok (.getfield 42, 3) := by decide +kernel
theorem dX11_track_91 : decode cX11_track 91 = .ok (.iload 6, 2) := by decide +kernel
theorem dX11_track_93 : decode cX11_track 93 = .ok (.iconst 0, 1) := by decide +kernel
theorem dX11_track_94 : decode cX11_track 94 = .ok (.iastore, 1) := by decide +kernel
theorem dX11_track_95 : decode cX11_track 95 = .ok (.iload 5, 2) := by decide +kernel
theorem dX11_track_97 : decode cX11_track 97 = .ok (.ifCond .eq 17, 3) := by decide +kernel
theorem dX11_track_100 : decode cX11_track 100 = .ok (.aload_n 0, 1) := by decide +kernel
theorem dX11_track_101 : decode cX11_track 101 = .ok (.iload 6, 2) := by decide +kernel
theorem dX11_track_103 : decode cX11_track 103 = .ok (.iconst 1, 1) := by decide +kernel
theorem dX11_track_104 : decode cX11_track 104 = .ok (.invokevirtual 200, 3) := by decide +kernel
theorem dX11_track_107 : decode cX11_track 107 = .ok (.ifCond .le 7, 3) := by decide +kernel
theorem dX11_track_110 : decode cX11_track 110 = .ok (.iconst 1, 1) := by decide +kernel
theorem dX11_track_111 : decode cX11_track 111 = .ok (.goto 4, 3) := by decide +kernel
theorem dX11_track_114 : decode cX11_track 114 = .ok (.iconst 0, 1) := by decide +kernel
theorem dX11_track_115 : decode cX11_track 115 = .ok (.istore 5, 2) := by decide +kernel
theorem dX11_track_117 : decode cX11_track 117 = .ok (.iinc 6 1, 3) := by decide +kernel
theorem dX11_track_120 : decode cX11_track 120 = .ok (.goto (-45), 3) := by decide +kernel
theorem dX11_track_123 : decode cX11_track 123 = .ok (.iconst 0, 1) := by decide +kernel
theorem dX11_track_124 : decode cX11_track 124 = .ok (.istore 6, 2) := by decide +kernel
theorem dX11_track_126 : decode cX11_track 126 = .ok (.iload 5, 2) := by decide +kernel
theorem dX11_track_128 : decode cX11_track 128 = .ok (.ifCond .eq 93, 3) := by decide +kernel
theorem dX11_track_131 : decode cX11_track 131 = .ok (.iload_n 3, 1) := by decide +kernel
theorem dX11_track_132 : decode cX11_track 132 = .ok (.ifCond .ne 8, 3) := by decide +kernel
theorem dX11_track_135 : decode cX11_track 135 = .ok (.iload 4, 2) := by decide +kernel
theorem dX11_track_137 : decode cX11_track 137 = .ok (.ifCond .eq 84, 3) := by decide +kernel
theorem dX11_track_140 : decode cX11_track 140 = .ok (.aload_n 0, 1) := by decide +kernel
theorem dX11_track_141 : decode cX11_track 141 = .ok (.invokevirtual 291, 3) := by decide +kernel
theorem dX11_track_144 : decode cX11_track 144 = .ok (.ifCond .eq 68, 3) := by decide +kernel
theorem dX11_track_147 : decode cX11_track 147 = .ok (.iload 6, 2) := by decide +kernel
theorem dX11_track_149 : decode cX11_track 149 = .ok (.iload_n 1, 1) := by decide +kernel
theorem dX11_track_150 : decode cX11_track 150 = .ok (.if_icmp .ne 59, 3) := by decide +kernel
theorem dX11_track_153 : decode cX11_track 153 = .ok (.aload_n 0, 1) := by decide +kernel
theorem dX11_track_154 : decode cX11_track 154 = .ok (.getfield 7, 3) := by decide +kernel
theorem dX11_track_157 : decode cX11_track 157 = .ok (.bipush 40, 2) := by decide +kernel
theorem dX11_track_159 : decode cX11_track 159 = .ok (.iaload, 1) := by decide +kernel
theorem dX11_track_160 : decode cX11_track 160 = .ok (.iconst 1, 1) := by decide +kernel
theorem dX11_track_161 : decode cX11_track 161 = .ok (.isub, 1) := by decide +kernel
theorem dX11_track_162 : decode cX11_track 162 = .ok (.istore 7, 2) := by decide +kernel
theorem dX11_track_164 : decode cX11_track 164 = .ok (.iload_n 2, 1) := by decide +kernel
theorem dX11_track_165 : decode cX11_track 165 = .ok (.bipush 10, 2) := by decide +kernel
theorem dX11_track_167 : decode cX11_track 167 = .ok (.if_icmp .ge 11, 3) := by decide +kernel
theorem dX11_track_170 : decode cX11_track 170 = .ok (.aload_n 0, 1) := by decide +kernel
theorem dX11_track_171 : decode cX11_track 171 = .ok (.iload_n 2, 1) := by decide +kernel
theorem dX11_track_172 : decode cX11_track 172 = .ok (.invokevirtual 288, 3) := by decide +kernel
theorem dX11_track_175 : decode cX11_track 175 = .ok (.goto 33, 3) := by decide +kernel
theorem dX11_track_178 : decode cX11_track 178 = .ok (.bipush 16, 2) := by decide +kernel
theorem dX11_track_180 : decode cX11_track 180 = .ok (.aload_n 0, 1) := by decide +kernel
theorem dX11_track_181 : decode cX11_track 181 = .ok (.iload 7, 2) := by decide +kernel
theorem dX11_track_183 : decode cX11_track 183 = .ok (.invokevirtual 288, 3) := by decide +kernel
theorem dX11_track_186 : decode cX11_track 186 = .ok (.aload_n 0, 1) := by decide +kernel
theorem dX11_track_187 : decode cX11_track 187 = .ok (.iconst 0, 1) := by decide +kernel
theorem dX11_track_188 : decode cX11_track 188 = .ok (.invokevirtual 288, 3) := by decide +kernel
theorem dX11_track_191 : decode cX11_track 191 = .ok (.isub, 1) := by decide +kernel
theorem dX11_track_192 : decode cX11_track 192 = .ok (.imul, 1) := by decide +kernel
theorem dX11_track_193 : decode cX11_track 193 = .ok (.aload_n 0, 1) := by decide +kernel
theorem dX11_track_194 : decode cX11_track 194 = .ok (.iload 7, 2) := by decide +kernel
theorem dX11_track_196 : decode cX11_track 196 = .ok (.iconst 0, 1) := by decide +kernel
theorem dX11_track_197 : decode cX11_track 197 = .ok (.invokevirtual 200, 3) := by decide +kernel
theorem dX11_track_200 : decode cX11_track 200 = .ok (.aload_n 0, 1) := by decide +kernel
theorem dX11_track_201 : decode cX11_track 201 = .ok (.iconst 0, 1) := by decide +kernel
theorem dX11_track_202 : decode cX11_track 202 = .ok (.iconst 0, 1) := by decide +kernel
theorem dX11_track_203 : decode cX11_track 203 = .ok (.invokevirtual 200, 3) := by decide +kernel
theorem dX11_track_206 : decode cX11_track 206 = .ok (.isub, 1) := by decide +kernel
theorem dX11_track_207 : decode cX11_track 207 = .ok (.idiv, 1) := by decide +kernel
theorem dX11_track_208 : decode cX11_track 208 = .ok (.ireturn, 1) := by decide +kernel
theorem dX11_track_209 : decode cX11_track 209 = .ok (.iinc 6 1, 3) := by decide +kernel
theorem dX11_track_212 : decode cX11_track 212 = .ok (.aload_n 0, 1) := by decide +kernel
theorem dX11_track_213 : decode cX11_track 213 = .ok (.invokevirtual 294, 3) := by decide +kernel
theorem dX11_track_216 : decode cX11_track 216 = .ok (.istore 5, 2) := by decide +kernel
theorem dX11_track_218 : decode cX11_track 218 = .ok (.goto (-92), 3) := by decide +kernel
theorem dX11_track_221 : decode cX11_track 221 = .ok (.iload_n 3, 1) := by decide +kernel
theorem dX11_track_222 : decode cX11_track 222 = .ok (.ifCond .eq 8, 3) := by decide +kernel
theorem dX11_track_225 : decode cX11_track 225 = .ok (.iload 6, 2) := by decide +kernel
theorem dX11_track_227 : decode cX11_track 227 = .ok (.goto 6, 3) := by decide +kernel
theorem dX11_track_230 : decode cX11_track 230 = .ok (.ldc_w 297, 3) := by decide +kernel
theorem dX11_track_233 : decode cX11_track 233 = .ok (.ireturn, 1) := by decide +kernel
set_option maxRecDepth 20000 in
theorem ggX11_sends_X11_gapAt : GoodIn wsX11_sends wsX11_gapAt := goodIn_r _ [10, 5, 11, 12, 13, 14, 15, 16, 17, 18, 19, 20, 21, 22, 23, 24, 25, 26, 27, 28, 29, 30, 31, 32, 33, 34, 35, 36, 37, 38, 39, 40] (by decide +kernel) (by decide +kernel)
set_option maxRecDepth 20000 in
theorem gX11_sends_X11_gapAt : GoodIn wsX11_sends (wsV RX11 185 RX11 yX11_gapAt wsX11_gapAt) := goodIn_app (goodIn_of _ (by decide +kernel)) ggX11_sends_X11_gapAt
theorem dX11_sends_0 : decode cX11_sends 0 = .ok (.aload_n 0, 1) := by decide +kernel
theorem dX11_sends_1 : decode cX11_sends 1 = .ok (.iload_n 1, 1) := by decide +kernel
theorem dX11_sends_2 : decode cX11_sends 2 = .ok (.putfield 298, 3) := by decide +kernel
theorem dX11_sends_5 : decode cX11_sends 5 = .ok (.aload_n 0, 1) := by decide +kernel
theorem dX11_sends_6 : decode cX11_sends 6 = .ok (.getfield 45, 3) := by decide +kernel
theorem dX11_sends_9 : decode cX11_sends 9 = .ok (.iconst 0, 1) := by decide +kernel
theorem dX11_sends_10 : decode cX11_sends 10 = .ok (.iconst 0, 1) := by decide +kernel
theorem dX11_sends_11 : decode cX11_sends 11 = .ok (.iastore, 1) := by decide +kernel
theorem dX11_sends_12 : decode cX11_sends 12 = .ok (.iconst 0, 1) := by decide +kernel
theorem dX11_sends_13 : decode cX11_sends 13 = .ok (.istore 4, 2) := by decide +kernel
theorem dX11_sends_15 : decode cX11_sends 15 = .ok (.iload 4, 2) := by decide +kernel
theorem dX11_sends_17 : decode cX11_sends 17 = .ok (.iload_n 2, 1) := by decide +kernel
theorem dX11_sends_18 : decode cX11_sends 18 = .ok (.if_icmp .ge 80, 3) := by decide +kernel
theorem dX11_sends_21 : decode cX11_sends 21 = .ok (.aload_n 0, 1) := by decide +kernel
theorem dX11_sends_22 : decode cX11_sends 22 = .ok (.aload_n 0, 1) := by decide +kernel
theorem dX11_sends_23 : decode cX11_sends 23 = .ok (.getfield 298, 3) := by decide +kernel
theorem dX11_sends_26 : decode cX11_sends 26 = .ok (.ldc_w 301, 3) := by decide +kernel
theorem dX11_sends_29 : decode cX11_sends 29 = .ok (.imul, 1) := by decide +kernel
theorem dX11_sends_30 : decode cX11_sends 30 = .ok (.sipush 12345, 3) := by decide +kernel
theorem dX11_sends_33 : decode cX11_sends 33 = .ok (.iadd, 1) := by decide +kernel
theorem dX11_sends_34 : decode cX11_sends 34 = .ok (.putfield 298, 3) := by decide +kernel
theorem dX11_sends_37 : decode cX11_sends 37 = .ok (.aload_n 0, 1) := by decide +kernel
theorem dX11_sends_38 : decode cX11_sends 38 = .ok (.getfield 298, 3) := by decide +kernel
theorem dX11_sends_41 : decode cX11_sends 41 = .ok (.bipush 16, 2) := by decide +kernel
theorem dX11_sends_43 : decode cX11_sends 43 = .ok (.iushr, 1) := by decide +kernel
theorem dX11_sends_44 : decode cX11_sends 44 = .ok (.iconst 2, 1) := by decide +kernel
theorem dX11_sends_45 : decode cX11_sends 45 = .ok (.iload_n 3, 1) := by decide +kernel
theorem dX11_sends_46 : decode cX11_sends 46 = .ok (.imul, 1) := by decide +kernel
theorem dX11_sends_47 : decode cX11_sends 47 = .ok (.iconst 1, 1) := by decide +kernel
theorem dX11_sends_48 : decode cX11_sends 48 = .ok (.iadd, 1) := by decide +kernel
theorem dX11_sends_49 : decode cX11_sends 49 = .ok (.irem, 1) := by decide +kernel
theorem dX11_sends_50 : decode cX11_sends 50 = .ok (.iload_n 3, 1) := by decide +kernel
theorem dX11_sends_51 : decode cX11_sends 51 = .ok (.isub, 1) := by decide +kernel
theorem dX11_sends_52 : decode cX11_sends 52 = .ok (.istore 5, 2) := by decide +kernel
theorem dX11_sends_54 : decode cX11_sends 54 = .ok (.aload_n 0, 1) := by decide +kernel
theorem dX11_sends_55 : decode cX11_sends 55 = .ok (.getfield 45, 3) := by decide +kernel
theorem dX11_sends_58 : decode cX11_sends 58 = .ok (.iload 4, 2) := by decide +kernel
theorem dX11_sends_60 : decode cX11_sends 60 = .ok (.iconst 1, 1) := by decide +kernel
theorem dX11_sends_61 : decode cX11_sends 61 = .ok (.iadd, 1) := by decide +kernel
theorem dX11_sends_62 : decode cX11_sends 62 = .ok (.aload_n 0, 1) := by decide +kernel
theorem dX11_sends_63 : decode cX11_sends 63 = .ok (.getfield 45, 3) := by decide +kernel
theorem dX11_sends_66 : decode cX11_sends 66 = .ok (.iload 4, 2) := by decide +kernel
theorem dX11_sends_68 : decode cX11_sends 68 = .ok (.iaload, 1) := by decide +kernel
theorem dX11_sends_69 : decode cX11_sends 69 = .ok (.aload_n 0, 1) := by decide +kernel
theorem dX11_sends_70 : decode cX11_sends 70 = .ok (.aload_n 0, 1) := by decide +kernel
theorem dX11_sends_71 : decode cX11_sends 71 = .ok (.getfield 48, 3) := by decide +kernel
theorem dX11_sends_74 : decode cX11_sends 74 = .ok (.iload 4, 2) := by decide +kernel
theorem dX11_sends_76 : decode cX11_sends 76 = .ok (.aload_n 0, 1) := by decide +kernel
theorem dX11_sends_77 : decode cX11_sends 77 = .ok (.getfield 7, 3) := by decide +kernel
theorem dX11_sends_80 : decode cX11_sends 80 = .ok (.iconst 0, 1) := by decide +kernel
theorem dX11_sends_81 : decode cX11_sends 81 = .ok (.iaload, 1) := by decide +kernel
theorem dX11_sends_82 : decode cX11_sends 82 = .ok (.irem, 1) := by decide +kernel
theorem dX11_sends_83 : decode cX11_sends 83 = .ok (.iaload, 1) := by decide +kernel
theorem dX11_sends_84 : decode cX11_sends 84 = .ok (.invokevirtual 185, 3) := by decide +kernel
theorem dX11_sends_87 : decode cX11_sends 87 = .ok (.iadd, 1) := by decide +kernel
theorem dX11_sends_88 : decode cX11_sends 88 = .ok (.iload 5, 2) := by decide +kernel
theorem dX11_sends_90 : decode cX11_sends 90 = .ok (.iadd, 1) := by decide +kernel
theorem dX11_sends_91 : decode cX11_sends 91 = .ok (.iastore, 1) := by decide +kernel
theorem dX11_sends_92 : decode cX11_sends 92 = .ok (.iinc 4 1, 3) := by decide +kernel
theorem dX11_sends_95 : decode cX11_sends 95 = .ok (.goto (-80), 3) := by decide +kernel
theorem dX11_sends_98 : decode cX11_sends 98 = .ok (.return_, 1) := by decide +kernel
theorem dX11_isHidden_0 : decode cX11_isHidden 0 = .ok (.iconst 0, 1) := by decide +kernel
theorem dX11_isHidden_1 : decode cX11_isHidden 1 = .ok (.istore_n 3, 1) := by decide +kernel
theorem dX11_isHidden_2 : decode cX11_isHidden 2 = .ok (.iload_n 3, 1) := by decide +kernel
theorem dX11_isHidden_3 : decode cX11_isHidden 3 = .ok (.iload_n 2, 1) := by decide +kernel
theorem dX11_isHidden_4 : decode cX11_isHidden 4 = .ok (.if_icmp .ge 49, 3) := by decide +kernel
theorem dX11_isHidden_7 : decode cX11_isHidden 7 = .ok (.iload_n 1, 1) := by decide +kernel
theorem dX11_isHidden_8 : decode cX11_isHidden 8 = .ok (.aload_n 0, 1) := by decide +kernel
theorem dX11_isHidden_9 : decode cX11_isHidden 9 = .ok (.getfield 45, 3) := by decide +kernel
theorem dX11_isHidden_12 : decode cX11_isHidden 12 = .ok (.iload_n 3, 1) := by decide +kernel
theorem dX11_isHidden_13 : decode cX11_isHidden 13 = .ok (.iaload, 1) := by decide +kernel
theorem dX11_isHidden_14 : decode cX11_isHidden 14 = .ok (.if_icmp .eq 31, 3) := by decide +kernel
theorem dX11_isHidden_17 : decode cX11_isHidden 17 = .ok (.iload_n 1, 1) := by decide +kernel
theorem dX11_isHidden_18 : decode cX11_isHidden 18 = .ok (.aload_n 0, 1) := by decide +kernel
theorem dX11_isHidden_19 : decode cX11_isHidden 19 = .ok (.getfield 45, 3) := by decide +kernel
theorem dX11_isHidden_22 : decode cX11_isHidden 22 = .ok (.iload_n 3, 1) := by decide +kernel
theorem dX11_isHidden_23 : decode cX11_isHidden 23 = .ok (.iaload, 1) := by decide +kernel
theorem dX11_isHidden_24 : decode cX11_isHidden 24 = .ok (.if_icmp .le 23, 3) := by decide +kernel
theorem dX11_isHidden_27 : decode cX11_isHidden 27 = .ok (.iload_n 1, 1) := by decide +kernel
theorem dX11_isHidden_28 : decode cX11_isHidden 28 = .ok (.aload_n 0, 1) := by decide +kernel
theorem dX11_isHidden_29 : decode cX11_isHidden 29 = .ok (.getfield 45, 3) := by decide +kernel
theorem dX11_isHidden_32 : decode cX11_isHidden 32 = .ok (.iload_n 3, 1) := by decide +kernel
theorem dX11_isHidden_33 : decode cX11_isHidden 33 = .ok (.iaload, 1) := by decide +kernel
theorem dX11_isHidden_34 : decode cX11_isHidden 34 = .ok (.isub, 1) := by decide +kernel
theorem dX11_isHidden_35 : decode cX11_isHidden 35 = .ok (.aload_n 0, 1) := by decide +kernel
theorem dX11_isHidden_36 : decode cX11_isHidden 36 = .ok (.getfield 7, 3) := by decide +kernel
theorem dX11_isHidden_39 : decode cX11_isHidden 39 = .ok (.bipush 8, 2) := by decide +kernel
theorem dX11_isHidden_41 : decode cX11_isHidden 41 = .ok (.iaload, 1) := by decide +kernel
theorem dX11_isHidden_42 : decode cX11_isHidden 42 = .ok (.if_icmp .ge 5, 3) := by decide +kernel
theorem dX11_isHidden_45 : decode cX11_isHidden 45 = .ok (.iconst 1, 1) := by decide +kernel
theorem dX11_isHidden_46 : decode cX11_isHidden 46 = .ok (.ireturn, 1) := by decide +kernel
theorem dX11_isHidden_47 : decode cX11_isHidden 47 = .ok (.iinc 3 1, 3) := by decide +kernel
theorem dX11_isHidden_50 : decode cX11_isHidden 50 = .ok (.goto (-48), 3) := by decide +kernel
theorem dX11_isHidden_53 : decode cX11_isHidden 53 = .ok (.iconst 0, 1) := by decide +kernel
theorem dX11_isHidden_54 : decode cX11_isHidden 54 = .ok (.ireturn, 1) := by decide +kernel
set_option maxRecDepth 20000 in
theorem ggX11_heard_X11_rangeOf : GoodIn wsX11_heard wsX11_rangeOf := goodIn_r _ [7, 8, 9, 10, 6, 11, 1, 16, 17, 18, 19, 20, 21, 22, 23, 24, 25, 26, 27, 28, 29, 30, 31, 32, 33, 34, 35, 36, 37, 38, 39, 40, 41, 42, 43, 44, 45] (by decide +kernel) (by decide +kernel)
set_option maxRecDepth 20000 in
theorem gX11_heard_X11_rangeOf : GoodIn wsX11_heard (wsV RX11 227 RX11 yX11_rangeOf wsX11_rangeOf) := goodIn_app (goodIn_of _ (by decide +kernel)) ggX11_heard_X11_rangeOf
set_option maxRecDepth 20000 in
theorem ggX11_heard_X11_isHidden : GoodIn wsX11_heard wsX11_isHidden := goodIn_r _ [15, 2, 1, 16, 17, 18, 19, 20, 21, 22, 23, 24, 25, 26, 27, 28, 29, 30, 31, 32, 33, 34, 35, 36, 37, 38, 39, 40, 41, 42, 43, 44, 45] (by decide +kernel) (by decide +kernel)
set_option maxRecDepth 20000 in
theorem gX11_heard_X11_isHidden : GoodIn wsX11_heard (wsV RX11 302 RX11 yX11_isHidden wsX11_isHidden) := goodIn_app (goodIn_of _ (by decide +kernel)) ggX11_heard_X11_isHidden
theorem dX11_heard_0 : decode cX11_heard 0 = .ok (.iconst 0, 1) := by decide +kernel
theorem dX11_heard_1 : decode cX11_heard 1 = .ok (.istore_n 3, 1) := by decide +kernel
theorem dX11_heard_2 : decode cX11_heard 2 = .ok (.iconst 0, 1) := by decide +kernel
theorem dX11_heard_3 : decode cX11_heard 3 = .ok (.istore 4, 2) := by decide +kernel
theorem dX11_heard_5 : decode cX11_heard 5 = .ok (.iload 4, 2) := by decide +kernel
theorem dX11_heard_7 : decode cX11_heard 7 = .ok (.iload_n 1, 1) := by decide +kernel
theorem dX11_heard_8 : decode cX11_heard 8 = .ok (.if_icmp .ge 113, 3) := by decide +kernel
theorem dX11_heard_11 : decode cX11_heard 11 = .ok (.iconst 0, 1) := by decide +kernel
theorem dX11_heard_12 : decode cX11_heard 12 = .ok (.istore 5, 2) := by decide +kernel
theorem dX11_heard_14 : decode cX11_heard 14 = .ok (.iload 5, 2) := by decide +kernel
theorem dX11_heard_16 : decode cX11_heard 16 = .ok (.aload_n 0, 1) := by decide +kernel
theorem dX11_heard_17 : decode cX11_heard 17 = .ok (.getfield 7, 3) := by decide +kernel
theorem dX11_heard_20 : decode cX11_heard 20 = .ok (.bipush 13, 2) := by decide +kernel
theorem dX11_heard_22 : decode cX11_heard 22 = .ok (.iaload, 1) := by decide +kernel
theorem dX11_heard_23 : decode cX11_heard 23 = .ok (.if_icmp .ge 92, 3) := by decide +kernel
theorem dX11_heard_26 : decode cX11_heard 26 = .ok (.aload_n 0, 1) := by decide +kernel
theorem dX11_heard_27 : decode cX11_heard 27 = .ok (.getfield 45, 3) := by decide +kernel
theorem dX11_heard_30 : decode cX11_heard 30 = .ok (.iload 4, 2) := by decide +kernel
theorem dX11_heard_32 : decode cX11_heard 32 = .ok (.iaload, 1) := by decide +kernel
theorem dX11_heard_33 : decode cX11_heard 33 = .ok (.aload_n 0, 1) := by decide +kernel
theorem dX11_heard_34 : decode cX11_heard 34 = .ok (.iload 5, 2) := by decide +kernel
theorem dX11_heard_36 : decode cX11_heard 36 = .ok (.invokevirtual 227, 3) := by decide +kernel
theorem dX11_heard_39 : decode cX11_heard 39 = .ok (.iadd, 1) := by decide +kernel
theorem dX11_heard_40 : decode cX11_heard 40 = .ok (.istore 6, 2) := by decide +kernel
theorem dX11_heard_42 : decode cX11_heard 42 = .ok (.iload_n 2, 1) := by decide +kernel
theorem dX11_heard_43 : decode cX11_heard 43 = .ok (.iconst 3, 1) := by decide +kernel
theorem dX11_heard_44 : decode cX11_heard 44 = .ok (.if_icmp .ne 13, 3) := by decide +kernel
theorem dX11_heard_47 : decode cX11_heard 47 = .ok (.aload_n 0, 1) := by decide +kernel
theorem dX11_heard_48 : decode cX11_heard 48 = .ok (.iload 6, 2) := by decide +kernel
theorem dX11_heard_50 : decode cX11_heard 50 = .ok (.iload_n 1, 1) := by decide +kernel
theorem dX11_heard_51 : decode cX11_heard 51 = .ok (.invokevirtual 302, 3) := by decide +kernel
theorem dX11_heard_54 : decode cX11_heard 54 = .ok (.goto 40, 3) := by decide +kernel
theorem dX11_heard_57 : decode cX11_heard 57 = .ok (.iload 6, 2) := by decide +kernel
theorem dX11_heard_59 : decode cX11_heard 59 = .ok (.aload_n 0, 1) := by decide +kernel
theorem dX11_heard_60 : decode cX11_heard 60 = .ok (.getfield 45, 3) := by decide +kernel
theorem dX11_heard_63 : decode cX11_heard 63 = .ok (.iload 4, 2) := by decide +kernel
theorem dX11_heard_65 : decode cX11_heard 65 = .ok (.iconst 1, 1) := by decide +kernel
theorem dX11_heard_66 : decode cX11_heard 66 = .ok (.iadd, 1) := by decide +kernel
theorem dX11_heard_67 : decode cX11_heard 67 = .ok (.iaload, 1) := by decide +kernel
theorem dX11_heard_68 : decode cX11_heard 68 = .ok (.if_icmp .ge 7, 3) := by decide +kernel
theorem dX11_heard_71 : decode cX11_heard 71 = .ok (.iconst 1, 1) := by decide +kernel
theorem dX11_heard_72 : decode cX11_heard 72 = .ok (.goto 4, 3) := by decide +kernel
theorem dX11_heard_75 : decode cX11_heard 75 = .ok (.iconst 0, 1) := by decide +kernel
theorem dX11_heard_76 : decode cX11_heard 76 = .ok (.iload_n 2, 1) := by decide +kernel
theorem dX11_heard_77 : decode cX11_heard 77 = .ok (.iconst 1, 1) := by decide +kernel
theorem dX11_heard_78 : decode cX11_heard 78 = .ok (.if_icmp .ne 7, 3) := by decide +kernel
theorem dX11_heard_81 : decode cX11_heard 81 = .ok (.iconst 1, 1) := by decide +kernel
theorem dX11_heard_82 : decode cX11_heard 82 = .ok (.goto 4, 3) := by decide +kernel
theorem dX11_heard_85 : decode cX11_heard 85 = .ok (.iconst 0, 1) := by decide +kernel
theorem dX11_heard_86 : decode cX11_heard 86 = .ok (.if_icmp .ne 7, 3) := by decide +kernel
theorem dX11_heard_89 : decode cX11_heard 89 = .ok (.iconst 1, 1) := by decide +kernel
theorem dX11_heard_90 : decode cX11_heard 90 = .ok (.goto 4, 3) := by decide +kernel
theorem dX11_heard_93 : decode cX11_heard 93 = .ok (.iconst 0, 1) := by decide +kernel
theorem dX11_heard_94 : decode cX11_heard 94 = .ok (.istore 7, 2) := by decide +kernel
theorem dX11_heard_96 : decode cX11_heard 96 = .ok (.iload_n 3, 1) := by decide +kernel
theorem dX11_heard_97 : decode cX11_heard 97 = .ok (.iload 7, 2) := by decide +kernel
theorem dX11_heard_99 : decode cX11_heard 99 = .ok (.ifCond .eq 7, 3) := by decide +kernel
theorem dX11_heard_102 : decode cX11_heard 102 = .ok (.iconst 1, 1) := by decide +kernel
theorem dX11_heard_103 : decode cX11_heard 103 = .ok (.goto 4, 3) := by decide +kernel
theorem dX11_heard_106 : decode cX11_heard 106 = .ok (.iconst 0, 1) := by decide +kernel
theorem dX11_heard_107 : decode cX11_heard 107 = .ok (.iadd, 1) := by decide +kernel
theorem dX11_heard_108 : decode cX11_heard 108 = .ok (.istore_n 3, 1) := by decide +kernel
theorem dX11_heard_109 : decode cX11_heard 109 = .ok (.iinc 5 1, 3) := by decide +kernel
theorem dX11_heard_112 : decode cX11_heard 112 = .ok (.goto (-98), 3) := by decide +kernel
theorem dX11_heard_115 : decode cX11_heard 115 = .ok (.iinc 4 1, 3) := by decide +kernel
theorem dX11_heard_118 : decode cX11_heard 118 = .ok (.goto (-113), 3) := by decide +kernel
theorem dX11_heard_121 : decode cX11_heard 121 = .ok (.iload_n 3, 1) := by decide +kernel
theorem dX11_heard_122 : decode cX11_heard 122 = .ok (.ireturn, 1) := by decide +kernel
theorem dX11_inOrder_0 : decode cX11_inOrder 0 = .ok (.iconst 0, 1) := by decide +kernel
theorem dX11_inOrder_1 : decode cX11_inOrder 1 = .ok (.istore_n 1, 1) := by decide +kernel
theorem dX11_inOrder_2 : decode cX11_inOrder 2 = .ok (.iload_n 1, 1) := by decide +kernel
theorem dX11_inOrder_3 : decode cX11_inOrder 3 = .ok (.aload_n 0, 1) := by decide +kernel
theorem dX11_inOrder_4 : decode cX11_inOrder 4 = .ok (.getfield 7, 3) := by decide +kernel
theorem dX11_inOrder_7 : decode cX11_inOrder 7 = .ok (.iconst 0, 1) := by decide +kernel
theorem dX11_inOrder_8 : decode cX11_inOrder 8 = .ok (.iaload, 1) := by decide +kernel
theorem dX11_inOrder_9 : decode cX11_inOrder 9 = .ok (.if_icmp .ge 16, 3) := by decide +kernel
theorem dX11_inOrder_12 : decode cX11_inOrder 12 = .ok (.aload_n 0, 1) := by decide +kernel
theorem dX11_inOrder_13 : decode cX11_inOrder 13 = .ok (.getfield 48, 3) := by decide +kernel
theorem dX11_inOrder_16 : decode cX11_inOrder 16 = .ok (.iload_n 1, 1) := by decide +kernel
theorem dX11_inOrder_17 : decode cX11_inOrder 17 = .ok (.iload_n 1, 1) := by decide +kernel
theorem dX11_inOrder_18 : decode cX11_inOrder 18 = .ok (.iastore, 1) := by decide +kernel
theorem dX11_inOrder_19 : decode cX11_inOrder 19 = .ok (.iinc 1 1, 3) := by decide +kernel
theorem dX11_inOrder_22 : decode cX11_inOrder 22 = .ok (.goto (-20), 3) := by decide +kernel
theorem dX11_inOrder_25 : decode cX11_inOrder 25 = .ok (.return_, 1) := by decide +kernel
set_option maxRecDepth 20000 in
theorem ggX11_dwell_X11_in : GoodIn wsX11_dwell wsX11_in := goodIn_r _ [7] (by decide +kernel) (by decide +kernel)
set_option maxRecDepth 20000 in
theorem gX11_dwell_X11_in : GoodIn wsX11_dwell (va_wsS RX11 70 yX11_in wsX11_in) := goodIn_app (goodIn_of _ (by decide +kernel)) ggX11_dwell_X11_in
set_option maxRecDepth 20000 in
theorem ggX11_dwell_X11_inOrder : GoodIn wsX11_dwell wsX11_inOrder := goodIn_r _ [11, 2, 12, 42, 43, 44, 45, 46, 47, 48, 49, 50, 51, 52, 53, 54, 55, 56, 57, 58, 59, 60, 61, 62, 63, 64, 65, 66, 67, 68, 69, 70, 71] (by decide +kernel) (by decide +kernel)
set_option maxRecDepth 20000 in
theorem gX11_dwell_X11_inOrder : GoodIn wsX11_dwell (wsV RX11 305 RX11 yX11_inOrder wsX11_inOrder) := goodIn_app (goodIn_of _ (by decide +kernel)) ggX11_dwell_X11_inOrder
set_option maxRecDepth 20000 in
theorem ggX11_dwell_X11_sends : GoodIn wsX11_dwell wsX11_sends := goodIn_r _ [16, 17, 3, 18, 12, 2, 19, 20, 21, 6, 22, 42, 43, 44, 45, 46, 47, 48, 49, 50, 51, 52, 53, 54, 55, 56, 57, 58, 59, 60, 61, 62, 63, 64, 65, 66, 67, 68, 69, 70, 71] (by decide +kernel) (by decide +kernel)
set_option maxRecDepth 20000 in
theorem gX11_dwell_X11_sends : GoodIn wsX11_dwell (wsV RX11 308 RX11 yX11_sends wsX11_sends) := goodIn_app (goodIn_of _ (by decide +kernel)) ggX11_dwell_X11_sends
set_option maxRecDepth 20000 in
theorem ggX11_dwell_X11_greater : GoodIn wsX11_dwell wsX11_greater := goodIn_r _ [25] (by decide +kernel) (by decide +kernel)
set_option maxRecDepth 20000 in
theorem gX11_dwell_X11_greater : GoodIn wsX11_dwell (va_wsS RX11 312 yX11_greater wsX11_greater) := goodIn_app (goodIn_of _ (by decide +kernel)) ggX11_dwell_X11_greater
set_option maxRecDepth 20000 in
theorem ggX11_dwell_X11_heard : GoodIn wsX11_dwell wsX11_heard := goodIn_r _ [29, 2, 3, 30, 31, 32, 6, 33, 34, 35, 36, 37, 38, 39, 40, 41, 42, 43, 44, 45, 46, 47, 48, 49, 50, 51, 52, 53, 54, 55, 56, 57, 58, 59, 60, 61, 62, 63, 64, 65, 66, 67, 68, 69, 70, 71] (by decide +kernel) (by decide +kernel)
set_option maxRecDepth 20000 in
theorem gX11_dwell_X11_heard : GoodIn wsX11_dwell (wsV RX11 315 RX11 yX11_heard wsX11_heard) := goodIn_app (goodIn_of _ (by decide +kernel)) ggX11_dwell_X11_heard
theorem dX11_dwell_0 : decode cX11_dwell 0 = .ok (.aload_n 0, 1) := by decide +kernel
theorem dX11_dwell_1 : decode cX11_dwell 1 = .ok (.iconst 0, 1) := by decide +kernel
theorem dX11_dwell_2 : decode cX11_dwell 2 = .ok (.putfield 66, 3) := by decide +kernel
theorem dX11_dwell_5 : decode cX11_dwell 5 = .ok (.iload_n 2, 1) := by decide +kernel
theorem dX11_dwell_6 : decode cX11_dwell 6 = .ok (.iconst 1, 1) := by decide +kernel
theorem dX11_dwell_7 : decode cX11_dwell 7 = .ok (.bipush 64, 2) := by decide +kernel
theorem dX11_dwell_9 : decode cX11_dwell 9 = .ok (.invokestatic 70, 3) := by decide +kernel
theorem dX11_dwell_12 : decode cX11_dwell 12 = .ok (.ifCond .eq 31, 3) := by decide +kernel
theorem dX11_dwell_15 : decode cX11_dwell 15 = .ok (.iload_n 3, 1) := by decide +kernel
theorem dX11_dwell_16 : decode cX11_dwell 16 = .ok (.iconst 0, 1) := by decide +kernel
theorem dX11_dwell_17 : decode cX11_dwell 17 = .ok (.iconst 3, 1) := by decide +kernel
theorem dX11_dwell_18 : decode cX11_dwell 18 = .ok (.invokestatic 70, 3) := by decide +kernel
theorem dX11_dwell_21 : decode cX11_dwell 21 = .ok (.ifCond .eq 22, 3) := by decide +kernel
theorem dX11_dwell_24 : decode cX11_dwell 24 = .ok (.iload 4, 2) := by decide +kernel
theorem dX11_dwell_26 : decode cX11_dwell 26 = .ok (.iconst 0, 1) := by decide +kernel
theorem dX11_dwell_27 : decode cX11_dwell 27 = .ok (.iconst 4, 1) := by decide +kernel
theorem dX11_dwell_28 : decode cX11_dwell 28 = .ok (.invokestatic 70, 3) := by decide +kernel
theorem dX11_dwell_31 : decode cX11_dwell 31 = .ok (.ifCond .eq 12, 3) := by decide +kernel
theorem dX11_dwell_34 : decode cX11_dwell 34 = .ok (.aload_n 0, 1) := by decide +kernel
theorem dX11_dwell_35 : decode cX11_dwell 35 = .ok (.getfield 7, 3) := by decide +kernel
theorem dX11_dwell_38 : decode cX11_dwell 38 = .ok (.iconst 0, 1) := by decide +kernel
theorem dX11_dwell_39 : decode cX11_dwell 39 = .ok (.iaload, 1) := by decide +kernel
theorem dX11_dwell_40 : decode cX11_dwell 40 = .ok (.ifCond .ne 5, 3) := by decide +kernel
theorem dX11_dwell_43 : decode cX11_dwell 43 = .ok (.iconst (-1), 1) := by decide +kernel
theorem dX11_dwell_44 : decode cX11_dwell 44 = .ok (.ireturn, 1) := by decide +kernel
theorem dX11_dwell_45 : decode cX11_dwell 45 = .ok (.aload_n 0, 1) := by decide +kernel
theorem dX11_dwell_46 : decode cX11_dwell 46 = .ok (.invokevirtual 305, 3) := by decide +kernel
theorem dX11_dwell_49 : decode cX11_dwell 49 = .ok (.aload_n 0, 1) := by decide +kernel
theorem dX11_dwell_50 : decode cX11_dwell 50 = .ok (.iload_n 1, 1) := by decide +kernel
theorem dX11_dwell_51 : decode cX11_dwell 51 = .ok (.iload_n 2, 1) := by decide +kernel
theorem dX11_dwell_52 : decode cX11_dwell 52 = .ok (.iload_n 3, 1) := by decide +kernel
theorem dX11_dwell_53 : decode cX11_dwell 53 = .ok (.invokevirtual 308, 3) := by decide +kernel
theorem dX11_dwell_56 : decode cX11_dwell 56 = .ok (.iload 4, 2) := by decide +kernel
theorem dX11_dwell_58 : decode cX11_dwell 58 = .ok (.ifCond .ne 12, 3) := by decide +kernel
theorem dX11_dwell_61 : decode cX11_dwell 61 = .ok (.aload_n 0, 1) := by decide +kernel
theorem dX11_dwell_62 : decode cX11_dwell 62 = .ok (.getfield 45, 3) := by decide +kernel
theorem dX11_dwell_65 : decode cX11_dwell 65 = .ok (.iload_n 2, 1) := by decide +kernel
theorem dX11_dwell_66 : decode cX11_dwell 66 = .ok (.iconst 1, 1) := by decide +kernel
theorem dX11_dwell_67 : decode cX11_dwell 67 = .ok (.isub, 1) := by decide +kernel
theorem dX11_dwell_68 : decode cX11_dwell 68 = .ok (.iaload, 1) := by decide +kernel
theorem dX11_dwell_69 : decode cX11_dwell 69 = .ok (.ireturn, 1) := by decide +kernel
theorem dX11_dwell_70 : decode cX11_dwell 70 = .ok (.iconst 0, 1) := by decide +kernel
theorem dX11_dwell_71 : decode cX11_dwell 71 = .ok (.istore 5, 2) := by decide +kernel
theorem dX11_dwell_73 : decode cX11_dwell 73 = .ok (.iconst 1, 1) := by decide +kernel
theorem dX11_dwell_74 : decode cX11_dwell 74 = .ok (.istore 6, 2) := by decide +kernel
theorem dX11_dwell_76 : decode cX11_dwell 76 = .ok (.iload 6, 2) := by decide +kernel
theorem dX11_dwell_78 : decode cX11_dwell 78 = .ok (.iload_n 2, 1) := by decide +kernel
theorem dX11_dwell_79 : decode cX11_dwell 79 = .ok (.if_icmp .ge 33, 3) := by decide +kernel
theorem dX11_dwell_82 : decode cX11_dwell 82 = .ok (.iload 5, 2) := by decide +kernel
theorem dX11_dwell_84 : decode cX11_dwell 84 = .ok (.aload_n 0, 1) := by decide +kernel
theorem dX11_dwell_85 : decode cX11_dwell 85 = .ok (.getfield 45, 3) := by decide +kernel
theorem dX11_dwell_88 : decode cX11_dwell 88 = .ok (.iload 6, 2) := by decide +kernel
theorem dX11_dwell_90 : decode cX11_dwell 90 = .ok (.iaload, 1) := by decide +kernel
theorem dX11_dwell_91 : decode cX11_dwell 91 = .ok (.aload_n 0, 1) := by decide +kernel
theorem dX11_dwell_92 : decode cX11_dwell 92 = .ok (.getfield 45, 3) := by decide +kernel
theorem dX11_dwell_95 : decode cX11_dwell 95 = .ok (.iload 6, 2) := by decide +kernel
theorem dX11_dwell_97 : decode cX11_dwell 97 = .ok (.iconst 1, 1) := by decide +kernel
theorem dX11_dwell_98 : decode cX11_dwell 98 = .ok (.isub, 1) := by decide +kernel
theorem dX11_dwell_99 : decode cX11_dwell 99 = .ok (.iaload, 1) := by decide +kernel
theorem dX11_dwell_100 : decode cX11_dwell 100 = .ok (.isub, 1) := by decide +kernel
theorem dX11_dwell_101 : decode cX11_dwell 101 = .ok (.invokestatic 312, 3) := by decide +kernel
theorem dX11_dwell_104 : decode cX11_dwell 104 = .ok (.istore 5, 2) := by decide +kernel
theorem dX11_dwell_106 : decode cX11_dwell 106 = .ok (.iinc 6 1, 3) := by decide +kernel
theorem dX11_dwell_109 : decode cX11_dwell 109 = .ok (.goto (-33), 3) := by decide +kernel
theorem dX11_dwell_112 : decode cX11_dwell 112 = .ok (.iload 4, 2) := by decide +kernel
theorem dX11_dwell_114 : decode cX11_dwell 114 = .ok (.iconst 4, 1) := by decide +kernel
theorem dX11_dwell_115 : decode cX11_dwell 115 = .ok (.if_icmp .ne 8, 3) := by decide +kernel
theorem dX11_dwell_118 : decode cX11_dwell 118 = .ok (.iload 5, 2) := by decide +kernel
theorem dX11_dwell_120 : decode cX11_dwell 120 = .ok (.goto 10, 3) := by decide +kernel
theorem dX11_dwell_123 : decode cX11_dwell 123 = .ok (.aload_n 0, 1) := by decide +kernel
theorem dX11_dwell_124 : decode cX11_dwell 124 = .ok (.iload_n 2, 1) := by decide +kernel
theorem dX11_dwell_125 : decode cX11_dwell 125 = .ok (.iload 4, 2) := by decide +kernel
theorem dX11_dwell_127 : decode cX11_dwell 127 = .ok (.invokevirtual 315, 3) := by decide +kernel
theorem dX11_dwell_130 : decode cX11_dwell 130 = .ok (.ireturn, 1) := by decide +kernel
theorem dX11_nextOrder_0 : decode cX11_nextOrder 0 = .ok (.aload_n 0, 1) := by decide +kernel
theorem dX11_nextOrder_1 : decode cX11_nextOrder 1 = .ok (.getfield 7, 3) := by decide +kernel
theorem dX11_nextOrder_4 : decode cX11_nextOrder 4 = .ok (.iconst 0, 1) := by decide +kernel
theorem dX11_nextOrder_5 : decode cX11_nextOrder 5 = .ok (.iaload, 1) := by decide +kernel
theorem dX11_nextOrder_6 : decode cX11_nextOrder 6 = .ok (.iconst 2, 1) := by decide +kernel
theorem dX11_nextOrder_7 : decode cX11_nextOrder 7 = .ok (.isub, 1) := by decide +kernel
theorem dX11_nextOrder_8 : decode cX11_nextOrder 8 = .ok (.istore_n 1, 1) := by decide +kernel
theorem dX11_nextOrder_9 : decode cX11_nextOrder 9 = .ok (.iload_n 1, 1) := by decide +kernel
theorem dX11_nextOrder_10 : decode cX11_nextOrder 10 = .ok (.ifCond .lt 26, 3) := by decide +kernel
theorem dX11_nextOrder_13 : decode cX11_nextOrder 13 = .ok (.aload_n 0, 1) := by decide +kernel
theorem dX11_nextOrder_14 : decode cX11_nextOrder 14 = .ok (.getfield 48, 3) := by decide +kernel
theorem dX11_nextOrder_17 : decode cX11_nextOrder 17 = .ok (.iload_n 1, 1) := by decide +kernel
theorem dX11_nextOrder_18 : decode cX11_nextOrder 18 = .ok (.iaload, 1) := by decide +kernel
theorem dX11_nextOrder_19 : decode cX11_nextOrder 19 = .ok (.aload_n 0, 1) := by decide +kernel
theorem dX11_nextOrder_20 : decode cX11_nextOrder 20 = .ok (.getfield 48, 3) := by decide +kernel
theorem dX11_nextOrder_23 : decode cX11_nextOrder 23 = .ok (.iload_n 1, 1) := by decide +kernel
theorem dX11_nextOrder_24 : decode cX11_nextOrder 24 = .ok (.iconst 1, 1) := by decide +kernel
theorem dX11_nextOrder_25 : decode cX11_nextOrder 25 = .ok (.iadd, 1) := by decide +kernel
theorem dX11_nextOrder_26 : decode cX11_nextOrder 26 = .ok (.iaload, 1) := by decide +kernel
theorem dX11_nextOrder_27 : decode cX11_nextOrder 27 = .ok (.if_icmp .le 9, 3) := by decide +kernel
theorem dX11_nextOrder_30 : decode cX11_nextOrder 30 = .ok (.iinc 1 (-1), 3) := by decide +kernel
theorem dX11_nextOrder_33 : decode cX11_nextOrder 33 = .ok (.goto (-24), 3) := by decide +kernel
theorem dX11_nextOrder_36 : decode cX11_nextOrder 36 = .ok (.iload_n 1, 1) := by decide +kernel
theorem dX11_nextOrder_37 : decode cX11_nextOrder 37 = .ok (.ifCond .ge 5, 3) := by decide +kernel
theorem dX11_nextOrder_40 : decode cX11_nextOrder 40 = .ok (.iconst 0, 1) := by decide +kernel
theorem dX11_nextOrder_41 : decode cX11_nextOrder 41 = .ok (.ireturn, 1) := by decide +kernel
theorem dX11_nextOrder_42 : decode cX11_nextOrder 42 = .ok (.aload_n 0, 1) := by decide +kernel
theorem dX11_nextOrder_43 : decode cX11_nextOrder 43 = .ok (.getfield 7, 3) := by decide +kernel
theorem dX11_nextOrder_46 : decode cX11_nextOrder 46 = .ok (.iconst 0, 1) := by decide +kernel
theorem dX11_nextOrder_47 : decode cX11_nextOrder 47 = .ok (.iaload, 1) := by decide +kernel
theorem dX11_nextOrder_48 : decode cX11_nextOrder 48 = .ok (.iconst 1, 1) := by decide +kernel
theorem dX11_nextOrder_49 : decode cX11_nextOrder 49 = .ok (.isub, 1) := by decide +kernel
theorem dX11_nextOrder_50 : decode cX11_nextOrder 50 = .ok (.istore_n 2, 1) := by decide +kernel
theorem dX11_nextOrder_51 : decode cX11_nextOrder 51 = .ok (.aload_n 0, 1) := by decide +kernel
theorem dX11_nextOrder_52 : decode cX11_nextOrder 52 = .ok (.getfield 48, 3) := by decide +kernel
theorem dX11_nextOrder_55 : decode cX11_nextOrder 55 = .ok (.iload_n 2, 1) := by decide +kernel
theorem dX11_nextOrder_56 : decode cX11_nextOrder 56 = .ok (.iaload, 1) := by decide +kernel
theorem dX11_nextOrder_57 : decode cX11_nextOrder 57 = .ok (.aload_n 0, 1) := by decide +kernel
theorem dX11_nextOrder_58 : decode cX11_nextOrder 58 = .ok (.getfield 48, 3) := by decide +kernel
theorem dX11_nextOrder_61 : decode cX11_nextOrder 61 = .ok (.iload_n 1, 1) := by decide +kernel
theorem dX11_nextOrder_62 : decode cX11_nextOrder 62 = .ok (.iaload, 1) := by decide +kernel
theorem dX11_nextOrder_63 : decode cX11_nextOrder 63 = .ok (.if_icmp .ge 9, 3) := by decide +kernel
theorem dX11_nextOrder_66 : decode cX11_nextOrder 66 = .ok (.iinc 2 (-1), 3) := by decide +kernel
theorem dX11_nextOrder_69 : decode cX11_nextOrder 69 = .ok (.goto (-18), 3) := by decide +kernel
theorem dX11_nextOrder_72 : decode cX11_nextOrder 72 = .ok (.aload_n 0, 1) := by decide +kernel
theorem dX11_nextOrder_73 : decode cX11_nextOrder 73 = .ok (.getfield 48, 3) := by decide +kernel
theorem dX11_nextOrder_76 : decode cX11_nextOrder 76 = .ok (.iload_n 1, 1) := by decide +kernel
theorem dX11_nextOrder_77 : decode cX11_nextOrder 77 = .ok (.iaload, 1) := by decide +kernel
theorem dX11_nextOrder_78 : decode cX11_nextOrder 78 = .ok (.istore_n 3, 1) := by decide +kernel
theorem dX11_nextOrder_79 : decode cX11_nextOrder 79 = .ok (.aload_n 0, 1) := by decide +kernel
theorem dX11_nextOrder_80 : decode cX11_nextOrder 80 = .ok (.getfield 48, 3) := by decide +kernel
theorem dX11_nextOrder_83 : decode cX11_nextOrder 83 = .ok (.iload_n 1, 1) := by decide +kernel
theorem dX11_nextOrder_84 : decode cX11_nextOrder 84 = .ok (.aload_n 0, 1) := by decide +kernel
theorem dX11_nextOrder_85 : decode cX11_nextOrder 85 = .ok (.getfield 48, 3) := by decide +kernel
theorem dX11_nextOrder_88 : decode cX11_nextOrder 88 = .ok (.iload_n 2, 1) := by decide +kernel
theorem dX11_nextOrder_89 : decode cX11_nextOrder 89 = .ok (.iaload, 1) := by decide +kernel
theorem dX11_nextOrder_90 : decode cX11_nextOrder 90 = .ok (.iastore, 1) := by decide +kernel
theorem dX11_nextOrder_91 : decode cX11_nextOrder 91 = .ok (.aload_n 0, 1) := by decide +kernel
theorem dX11_nextOrder_92 : decode cX11_nextOrder 92 = .ok (.getfield 48, 3) := by decide +kernel
theorem dX11_nextOrder_95 : decode cX11_nextOrder 95 = .ok (.iload_n 2, 1) := by decide +kernel
theorem dX11_nextOrder_96 : decode cX11_nextOrder 96 = .ok (.iload_n 3, 1) := by decide +kernel
theorem dX11_nextOrder_97 : decode cX11_nextOrder 97 = .ok (.iastore, 1) := by decide +kernel
theorem dX11_nextOrder_98 : decode cX11_nextOrder 98 = .ok (.iload_n 1, 1) := by decide +kernel
theorem dX11_nextOrder_99 : decode cX11_nextOrder 99 = .ok (.iconst 1, 1) := by decide +kernel
theorem dX11_nextOrder_100 : decode cX11_nextOrder 100 = .ok (.iadd, 1) := by decide +kernel
theorem dX11_nextOrder_101 : decode cX11_nextOrder 101 = .ok (.istore 4, 2) := by decide +kernel
theorem dX11_nextOrder_103 : decode cX11_nextOrder 103 = .ok (.iload 4, 2) := by decide +kernel
theorem dX11_nextOrder_105 : decode cX11_nextOrder 105 = .ok (.aload_n 0, 1) := by decide +kernel
theorem dX11_nextOrder_106 : decode cX11_nextOrder 106 = .ok (.getfield 7, 3) := by decide +kernel
theorem dX11_nextOrder_109 : decode cX11_nextOrder 109 = .ok (.iconst 0, 1) := by decide +kernel
theorem dX11_nextOrder_110 : decode cX11_nextOrder 110 = .ok (.iaload, 1) := by decide +kernel
theorem dX11_nextOrder_111 : decode cX11_nextOrder 111 = .ok (.iload 4, 2) := by decide +kernel
theorem dX11_nextOrder_113 : decode cX11_nextOrder 113 = .ok (.isub, 1) := by decide +kernel
theorem dX11_nextOrder_114 : decode cX11_nextOrder 114 = .ok (.iload_n 1, 1) := by decide +kernel
theorem dX11_nextOrder_115 : decode cX11_nextOrder 115 = .ok (.iadd, 1) := by decide +kernel
theorem dX11_nextOrder_116 : decode cX11_nextOrder 116 = .ok (.if_icmp .ge 52, 3) := by decide +kernel
theorem dX11_nextOrder_119 : decode cX11_nextOrder 119 = .ok (.aload_n 0, 1) := by decide +kernel
theorem dX11_nextOrder_120 : decode cX11_nextOrder 120 = .ok (.getfield 7, 3) := by decide +kernel
theorem dX11_nextOrder_123 : decode cX11_nextOrder 123 = .ok (.iconst 0, 1) := by decide +kernel
theorem dX11_nextOrder_124 : decode cX11_nextOrder 124 = .ok (.iaload, 1) := by decide +kernel
theorem dX11_nextOrder_125 : decode cX11_nextOrder 125 = .ok (.iload 4, 2) := by decide +kernel
theorem dX11_nextOrder_127 : decode cX11_nextOrder 127 = .ok (.isub, 1) := by decide +kernel
theorem dX11_nextOrder_128 : decode cX11_nextOrder 128 = .ok (.iload_n 1, 1) := by decide +kernel
theorem dX11_nextOrder_129 : decode cX11_nextOrder 129 = .ok (.iadd, 1) := by decide +kernel
theorem dX11_nextOrder_130 : decode cX11_nextOrder 130 = .ok (.istore 5, 2) := by decide +kernel
theorem dX11_nextOrder_132 : decode cX11_nextOrder 132 = .ok (.aload_n 0, 1) := by decide +kernel
theorem dX11_nextOrder_133 : decode cX11_nextOrder 133 = .ok (.getfield 48, 3) := by decide +kernel
theorem dX11_nextOrder_136 : decode cX11_nextOrder 136 = .ok (.iload 4, 2) := by decide +kernel
theorem dX11_nextOrder_138 : decode cX11_nextOrder 138 = .ok (.iaload, 1) := by decide +kernel
theorem dX11_nextOrder_139 : decode cX11_nextOrder 139 = .ok (.istore_n 3, 1) := by decide +kernel
theorem dX11_nextOrder_140 : decode cX11_nextOrder 140 = .ok (.aload_n 0, 1) := by decide +kernel
theorem dX11_nextOrder_141 : decode cX11_nextOrder 141 = .ok (.getfield 48, 3) := by decide +kernel
theorem dX11_nextOrder_144 : decode cX11_nextOrder 144 = .ok (.iload 4, 2) := by decide +kernel
theorem dX11_nextOrder_146 : decode cX11_nextOrder 146 = .ok (.aload_n 0, 1) := by decide +kernel
theorem dX11_nextOrder_147 : decode cX11_nextOrder 147 = .ok (.getfield 48, 3) := by decide +kernel
theorem dX11_nextOrder_150 : decode cX11_nextOrder 150 = .ok (.iload 5, 2) := by decide +kernel
theorem dX11_nextOrder_152 : decode cX11_nextOrder 152 = .ok (.iaload, 1) := by decide +kernel
theorem dX11_nextOrder_153 : decode cX11_nextOrder 153 = .ok (.iastore, 1) := by decide +kernel
theorem dX11_nextOrder_154 : decode cX11_nextOrder 154 = .ok (.aload_n 0, 1) := by decide +kernel
theorem dX11_nextOrder_155 : decode cX11_nextOrder 155 = .ok (.getfield 48, 3) := by decide +kernel
theorem dX11_nextOrder_158 : decode cX11_nextOrder 158 = .ok (.iload 5, 2) := by decide +kernel
theorem dX11_nextOrder_160 : decode cX11_nextOrder 160 = .ok (.iload_n 3, 1) := by decide +kernel
theorem dX11_nextOrder_161 : decode cX11_nextOrder 161 = .ok (.iastore, 1) := by decide +kernel
theorem dX11_nextOrder_162 : decode cX11_nextOrder 162 = .ok (.iinc 4 1, 3) := by decide +kernel
theorem dX11_nextOrder_165 : decode cX11_nextOrder 165 = .ok (.goto (-62), 3) := by decide +kernel
theorem dX11_nextOrder_168 : decode cX11_nextOrder 168 = .ok (.iconst 1, 1) := by decide +kernel
theorem dX11_nextOrder_169 : decode cX11_nextOrder 169 = .ok (.ireturn, 1) := by decide +kernel
set_option maxRecDepth 20000 in
theorem ggX11_order_X11_in : GoodIn wsX11_order wsX11_in := goodIn_r _ [8] (by decide +kernel) (by decide +kernel)
set_option maxRecDepth 20000 in
theorem gX11_order_X11_in : GoodIn wsX11_order (va_wsS RX11 70 yX11_in wsX11_in) := goodIn_app (goodIn_of _ (by decide +kernel)) ggX11_order_X11_in
set_option maxRecDepth 20000 in
theorem ggX11_order_X11_inOrder : GoodIn wsX11_order wsX11_inOrder := goodIn_r _ [12, 2, 4, 44, 45, 46, 47, 48, 49, 50, 51, 52, 53, 54, 55, 56, 57, 58, 59, 60, 61, 62, 63, 64, 65, 66, 67, 68, 69, 70, 71, 72, 73] (by decide +kernel) (by decide +kernel)
set_option maxRecDepth 20000 in
theorem gX11_order_X11_inOrder : GoodIn wsX11_order (wsV RX11 305 RX11 yX11_inOrder wsX11_inOrder) := goodIn_app (goodIn_of _ (by decide +kernel)) ggX11_order_X11_inOrder
set_option maxRecDepth 20000 in
theorem ggX11_order_X11_sends : GoodIn wsX11_order wsX11_sends := goodIn_r _ [16, 17, 18, 19, 4, 2, 20, 21, 22, 7, 23, 44, 45, 46, 47, 48, 49, 50, 51, 52, 53, 54, 55, 56, 57, 58, 59, 60, 61, 62, 63, 64, 65, 66, 67, 68, 69, 70, 71, 72, 73] (by decide +kernel) (by decide +kernel)
set_option maxRecDepth 20000 in
theorem gX11_order_X11_sends : GoodIn wsX11_order (wsV RX11 308 RX11 yX11_sends wsX11_sends) := goodIn_app (goodIn_of _ (by decide +kernel)) ggX11_order_X11_sends
set_option maxRecDepth 20000 in
theorem ggX11_order_X11_heard : GoodIn wsX11_order wsX11_heard := goodIn_r _ [27, 2, 18, 28, 29, 30, 7, 31, 32, 33, 34, 35, 36, 37, 38, 39, 44, 45, 46, 47, 48, 49, 50, 51, 52, 53, 54, 55, 56, 57, 58, 59, 60, 61, 62, 63, 64, 65, 66, 67, 68, 69, 70, 71, 72, 73] (by decide +kernel) (by decide +kernel)
set_option maxRecDepth 20000 in
theorem gX11_order_X11_heard : GoodIn wsX11_order (wsV RX11 315 RX11 yX11_heard wsX11_heard) := goodIn_app (goodIn_of _ (by decide +kernel)) ggX11_order_X11_heard
set_option maxRecDepth 20000 in
theorem ggX11_order_X11_nextOrder : GoodIn wsX11_order wsX11_nextOrder := goodIn_r _ [43, 2, 4, 44, 45, 46, 47, 48, 49, 50, 51, 52, 53, 54, 55, 56, 57, 58, 59, 60, 61, 62, 63, 64, 65, 66, 67, 68, 69, 70, 71, 72, 73] (by decide +kernel) (by decide +kernel)
set_option maxRecDepth 20000 in
theorem gX11_order_X11_nextOrder : GoodIn wsX11_order (wsV RX11 318 RX11 yX11_nextOrder wsX11_nextOrder) := goodIn_app (goodIn_of _ (by decide +kernel)) ggX11_order_X11_nextOrder
set_option maxRecDepth 20000 in
theorem ggX11_order_X11_gapAt : GoodIn wsX11_order wsX11_gapAt := goodIn_r _ [23, 2, 44, 45, 46, 47, 48, 49, 50, 51, 52, 53, 54, 55, 56, 57, 58, 59, 60, 61, 62, 63, 64, 65, 66, 67, 68, 69, 70, 71, 72, 73] (by decide +kernel) (by decide +kernel)
set_option maxRecDepth 20000 in
theorem gX11_order_X11_gapAt : GoodIn wsX11_order (wsV RX11 185 RX11 yX11_gapAt wsX11_gapAt) := goodIn_app (goodIn_of _ (by decide +kernel)) ggX11_order_X11_gapAt
theorem dX11_order_0 : decode cX11_order 0 = .ok (.aload_n 0, 1) := by decide +kernel
theorem dX11_order_1 : decode cX11_order 1 = .ok (.iconst 0, 1) := by decide +kernel
theorem dX11_order_2 : decode cX11_order 2 = .ok (.putfield 66, 3) := by decide +kernel
theorem dX11_order_5 : decode cX11_order 5 = .ok (.iload_n 1, 1) := by decide +kernel
theorem dX11_order_6 : decode cX11_order 6 = .ok (.iconst 1, 1) := by decide +kernel
theorem dX11_order_7 : decode cX11_order 7 = .ok (.bipush 64, 2) := by decide +kernel
theorem dX11_order_9 : decode cX11_order 9 = .ok (.invokestatic 70, 3) := by decide +kernel
theorem dX11_order_12 : decode cX11_order 12 = .ok (.ifCond .eq 35, 3) := by decide +kernel
theorem dX11_order_15 : decode cX11_order 15 = .ok (.iload_n 2, 1) := by decide +kernel
theorem dX11_order_16 : decode cX11_order 16 = .ok (.ifCond .eq 22, 3) := by decide +kernel
theorem dX11_order_19 : decode cX11_order 19 = .ok (.iload_n 2, 1) := by decide +kernel
theorem dX11_order_20 : decode cX11_order 20 = .ok (.bipush 10, 2) := by decide +kernel
theorem dX11_order_22 : decode cX11_order 22 = .ok (.isub, 1) := by decide +kernel
theorem dX11_order_23 : decode cX11_order 23 = .ok (.iconst 0, 1) := by decide +kernel
theorem dX11_order_24 : decode cX11_order 24 = .ok (.aload_n 0, 1) := by decide +kernel
theorem dX11_order_25 : decode cX11_order 25 = .ok (.getfield 7, 3) := by decide +kernel
theorem dX11_order_28 : decode cX11_order 28 = .ok (.iconst 0, 1) := by decide +kernel
theorem dX11_order_29 : decode cX11_order 29 = .ok (.iaload, 1) := by decide +kernel
theorem dX11_order_30 : decode cX11_order 30 = .ok (.iconst 1, 1) := by decide +kernel
theorem dX11_order_31 : decode cX11_order 31 = .ok (.isub, 1) := by decide +kernel
theorem dX11_order_32 : decode cX11_order 32 = .ok (.invokestatic 70, 3) := by decide +kernel
theorem dX11_order_35 : decode cX11_order 35 = .ok (.ifCond .eq 12, 3) := by decide +kernel
theorem dX11_order_38 : decode cX11_order 38 = .ok (.aload_n 0, 1) := by decide +kernel
theorem dX11_order_39 : decode cX11_order 39 = .ok (.getfield 7, 3) := by decide +kernel
theorem dX11_order_42 : decode cX11_order 42 = .ok (.iconst 0, 1) := by decide +kernel
theorem dX11_order_43 : decode cX11_order 43 = .ok (.iaload, 1) := by decide +kernel
theorem dX11_order_44 : decode cX11_order 44 = .ok (.ifCond .ne 5, 3) := by decide +kernel
theorem dX11_order_47 : decode cX11_order 47 = .ok (.iconst (-1), 1) := by decide +kernel
