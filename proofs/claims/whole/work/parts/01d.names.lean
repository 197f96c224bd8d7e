theorem dX6_readSentence_63 : decode cX6_readSentence 63 = .ok (.goto 4, 3) := by decide +kernel
theorem dX6_readSentence_66 : decode cX6_readSentence 66 = .ok (.iconst 1, 1) := by decide +kernel
theorem dX6_readSentence_67 : decode cX6_readSentence 67 = .ok (.istore 4, 2) := by decide +kernel
theorem dX6_readSentence_69 : decode cX6_readSentence 69 = .ok (.iconst 0, 1) := by decide +kernel
theorem dX6_readSentence_70 : decode cX6_readSentence 70 = .ok (.istore 5, 2) := by decide +kernel
theorem dX6_readSentence_72 : decode cX6_readSentence 72 = .ok (.iload 5, 2) := by decide +kernel
theorem dX6_readSentence_74 : decode cX6_readSentence 74 = .ok (.iload 4, 2) := by decide +kernel
theorem dX6_readSentence_76 : decode cX6_readSentence 76 = .ok (.if_icmp .ge 46, 3) := by decide +kernel
theorem dX6_readSentence_79 : decode cX6_readSentence 79 = .ok (.aload_n 0, 1) := by decide +kernel
theorem dX6_readSentence_80 : decode cX6_readSentence 80 = .ok (.getfield 34, 3) := by decide +kernel
theorem dX6_readSentence_83 : decode cX6_readSentence 83 = .ok (.iconst 2, 1) := by decide +kernel
theorem dX6_readSentence_84 : decode cX6_readSentence 84 = .ok (.if_icmp .eq 8, 3) := by decide +kernel
theorem dX6_readSentence_87 : decode cX6_readSentence 87 = .ok (.aload_n 0, 1) := by decide +kernel
theorem dX6_readSentence_88 : decode cX6_readSentence 88 = .ok (.invokevirtual 45, 3) := by decide +kernel
theorem dX6_readSentence_91 : decode cX6_readSentence 91 = .ok (.return_, 1) := by decide +kernel
theorem dX6_readSentence_92 : decode cX6_readSentence 92 = .ok (.aload_n 0, 1) := by decide +kernel
theorem dX6_readSentence_93 : decode cX6_readSentence 93 = .ok (.aload_n 2, 1) := by decide +kernel
theorem dX6_readSentence_94 : decode cX6_readSentence 94 = .ok (.iload_n 3, 1) := by decide +kernel
theorem dX6_readSentence_95 : decode cX6_readSentence 95 = .ok (.iload 5, 2) := by decide +kernel
theorem dX6_readSentence_97 : decode cX6_readSentence 97 = .ok (.invokevirtual 56, 3) := by decide +kernel
theorem dX6_readSentence_100 : decode cX6_readSentence 100 = .ok (.aload_n 0, 1) := by decide +kernel
theorem dX6_readSentence_101 : decode cX6_readSentence 101 = .ok (.getfield 9, 3) := by decide +kernel
theorem dX6_readSentence_104 : decode cX6_readSentence 104 = .ok (.iload 5, 2) := by decide +kernel
theorem dX6_readSentence_106 : decode cX6_readSentence 106 = .ok (.aload_n 0, 1) := by decide +kernel
theorem dX6_readSentence_107 : decode cX6_readSentence 107 = .ok (.getfield 60, 3) := by decide +kernel
theorem dX6_readSentence_110 : decode cX6_readSentence 110 = .ok (.iastore, 1) := by decide +kernel
theorem dX6_readSentence_111 : decode cX6_readSentence 111 = .ok (.aload_n 0, 1) := by decide +kernel
theorem dX6_readSentence_112 : decode cX6_readSentence 112 = .ok (.aload_n 1, 1) := by decide +kernel
theorem dX6_readSentence_113 : decode cX6_readSentence 113 = .ok (.invokevirtual 30, 3) := by decide +kernel
theorem dX6_readSentence_116 : decode cX6_readSentence 116 = .ok (.iinc 5 1, 3) := by decide +kernel
theorem dX6_readSentence_119 : decode cX6_readSentence 119 = .ok (.goto (-47), 3) := by decide +kernel
theorem dX6_readSentence_122 : decode cX6_readSentence 122 = .ok (.aload_n 0, 1) := by decide +kernel
theorem dX6_readSentence_123 : decode cX6_readSentence 123 = .ok (.getfield 34, 3) := by decide +kernel
theorem dX6_readSentence_126 : decode cX6_readSentence 126 = .ok (.iconst 3, 1) := by decide +kernel
theorem dX6_readSentence_127 : decode cX6_readSentence 127 = .ok (.if_icmp .eq 8, 3) := by decide +kernel
theorem dX6_readSentence_130 : decode cX6_readSentence 130 = .ok (.aload_n 0, 1) := by decide +kernel
theorem dX6_readSentence_131 : decode cX6_readSentence 131 = .ok (.invokevirtual 45, 3) := by decide +kernel
theorem dX6_readSentence_134 : decode cX6_readSentence 134 = .ok (.return_, 1) := by decide +kernel
theorem dX6_readSentence_135 : decode cX6_readSentence 135 = .ok (.aload_n 0, 1) := by decide +kernel
theorem dX6_readSentence_136 : decode cX6_readSentence 136 = .ok (.aload_n 1, 1) := by decide +kernel
theorem dX6_readSentence_137 : decode cX6_readSentence 137 = .ok (.invokevirtual 30, 3) := by decide +kernel
theorem dX6_readSentence_140 : decode cX6_readSentence 140 = .ok (.aload_n 0, 1) := by decide +kernel
theorem dX6_readSentence_141 : decode cX6_readSentence 141 = .ok (.getfield 15, 3) := by decide +kernel
theorem dX6_readSentence_144 : decode cX6_readSentence 144 = .ok (.ifCond .ne 9, 3) := by decide +kernel
theorem dX6_readSentence_147 : decode cX6_readSentence 147 = .ok (.aload_n 0, 1) := by decide +kernel
theorem dX6_readSentence_148 : decode cX6_readSentence 148 = .ok (.aload_n 2, 1) := by decide +kernel
theorem dX6_readSentence_149 : decode cX6_readSentence 149 = .ok (.iload_n 3, 1) := by decide +kernel
theorem dX6_readSentence_150 : decode cX6_readSentence 150 = .ok (.invokevirtual 63, 3) := by decide +kernel
theorem dX6_readSentence_153 : decode cX6_readSentence 153 = .ok (.return_, 1) := by decide +kernel
theorem dX6_refuseToken_0 : decode cX6_refuseToken 0 = .ok (.aload_n 0, 1) := by decide +kernel
theorem dX6_refuseToken_1 : decode cX6_refuseToken 1 = .ok (.iconst 1, 1) := by decide +kernel
theorem dX6_refuseToken_2 : decode cX6_refuseToken 2 = .ok (.putfield 15, 3) := by decide +kernel
theorem dX6_refuseToken_5 : decode cX6_refuseToken 5 = .ok (.aload_n 0, 1) := by decide +kernel
theorem dX6_refuseToken_6 : decode cX6_refuseToken 6 = .ok (.aload_n 0, 1) := by decide +kernel
theorem dX6_refuseToken_7 : decode cX6_refuseToken 7 = .ok (.getfield 67, 3) := by decide +kernel
theorem dX6_refuseToken_10 : decode cX6_refuseToken 10 = .ok (.putfield 19, 3) := by decide +kernel
theorem dX6_refuseToken_13 : decode cX6_refuseToken 13 = .ok (.return_, 1) := by decide +kernel
theorem dX6_noteFault_0 : decode cX6_noteFault 0 = .ok (.aload_n 0, 1) := by decide +kernel
theorem dX6_noteFault_1 : decode cX6_noteFault 1 = .ok (.getfield 15, 3) := by decide +kernel
theorem dX6_noteFault_4 : decode cX6_noteFault 4 = .ok (.ifCond .ne 16, 3) := by decide +kernel
theorem dX6_noteFault_7 : decode cX6_noteFault 7 = .ok (.aload_n 0, 1) := by decide +kernel
theorem dX6_noteFault_8 : decode cX6_noteFault 8 = .ok (.iload_n 1, 1) := by decide +kernel
theorem dX6_noteFault_9 : decode cX6_noteFault 9 = .ok (.putfield 15, 3) := by decide +kernel
theorem dX6_noteFault_12 : decode cX6_noteFault 12 = .ok (.aload_n 0, 1) := by decide +kernel
theorem dX6_noteFault_13 : decode cX6_noteFault 13 = .ok (.aload_n 0, 1) := by decide +kernel
theorem dX6_noteFault_14 : decode cX6_noteFault 14 = .ok (.getfield 67, 3) := by decide +kernel
theorem dX6_noteFault_17 : decode cX6_noteFault 17 = .ok (.putfield 19, 3) := by decide +kernel
theorem dX6_noteFault_20 : decode cX6_noteFault 20 = .ok (.return_, 1) := by decide +kernel
theorem dX6_isFull_0 : decode cX6_isFull 0 = .ok (.iload_n 1, 1) := by decide +kernel
theorem dX6_isFull_1 : decode cX6_isFull 1 = .ok (.bipush 7, 2) := by decide +kernel
theorem dX6_isFull_3 : decode cX6_isFull 3 = .ok (.if_icmp .ne 17, 3) := by decide +kernel
theorem dX6_isFull_6 : decode cX6_isFull 6 = .ok (.aload_n 0, 1) := by decide +kernel
theorem dX6_isFull_7 : decode cX6_isFull 7 = .ok (.getfield 70, 3) := by decide +kernel
theorem dX6_isFull_10 : decode cX6_isFull 10 = .ok (.iconst 5, 1) := by decide +kernel
theorem dX6_isFull_11 : decode cX6_isFull 11 = .ok (.if_icmp .lt 7, 3) := by decide +kernel
theorem dX6_isFull_14 : decode cX6_isFull 14 = .ok (.iconst 1, 1) := by decide +kernel
theorem dX6_isFull_15 : decode cX6_isFull 15 = .ok (.goto 4, 3) := by decide +kernel
theorem dX6_isFull_18 : decode cX6_isFull 18 = .ok (.iconst 0, 1) := by decide +kernel
theorem dX6_isFull_19 : decode cX6_isFull 19 = .ok (.ireturn, 1) := by decide +kernel
theorem dX6_isFull_20 : decode cX6_isFull 20 = .ok (.iload_n 1, 1) := by decide +kernel
theorem dX6_isFull_21 : decode cX6_isFull 21 = .ok (.bipush 8, 2) := by decide +kernel
theorem dX6_isFull_23 : decode cX6_isFull 23 = .ok (.if_icmp .eq 9, 3) := by decide +kernel
theorem dX6_isFull_26 : decode cX6_isFull 26 = .ok (.iload_n 1, 1) := by decide +kernel
theorem dX6_isFull_27 : decode cX6_isFull 27 = .ok (.bipush 9, 2) := by decide +kernel
theorem dX6_isFull_29 : decode cX6_isFull 29 = .ok (.if_icmp .ne 16, 3) := by decide +kernel
theorem dX6_isFull_32 : decode cX6_isFull 32 = .ok (.aload_n 0, 1) := by decide +kernel
theorem dX6_isFull_33 : decode cX6_isFull 33 = .ok (.getfield 73, 3) := by decide +kernel
theorem dX6_isFull_36 : decode cX6_isFull 36 = .ok (.bipush 8, 2) := by decide +kernel
theorem dX6_isFull_38 : decode cX6_isFull 38 = .ok (.if_icmp .lt 7, 3) := by decide +kernel
theorem dX6_isFull_41 : decode cX6_isFull 41 = .ok (.iconst 1, 1) := by decide +kernel
theorem dX6_isFull_42 : decode cX6_isFull 42 = .ok (.goto 4, 3) := by decide +kernel
theorem dX6_isFull_45 : decode cX6_isFull 45 = .ok (.iconst 0, 1) := by decide +kernel
theorem dX6_isFull_46 : decode cX6_isFull 46 = .ok (.ireturn, 1) := by decide +kernel
set_option maxRecDepth 20000 in
theorem ggX6_checkNumber_X6_canBe : GoodIn wsX6_checkNumber wsX6_canBe := goodIn_r _ [6, 1, 7, 8, 9, 10, 11, 12, 27, 28, 29, 30, 31, 32, 33] (by decide +kernel) (by decide +kernel)
set_option maxRecDepth 20000 in
theorem gX6_checkNumber_X6_canBe : GoodIn wsX6_checkNumber (wsV RX6 76 RX6 yX6_canBe wsX6_canBe) := goodIn_app (goodIn_of _ (by decide +kernel)) ggX6_checkNumber_X6_canBe
set_option maxRecDepth 20000 in
theorem ggX6_checkNumber_X6_noteFault : GoodIn wsX6_checkNumber wsX6_noteFault := goodIn_r _ [16, 17, 18, 19, 27, 28, 29, 30, 31, 32, 33] (by decide +kernel) (by decide +kernel)
set_option maxRecDepth 20000 in
theorem gX6_checkNumber_X6_noteFault : GoodIn wsX6_checkNumber (wsV RX6 52 RX6 yX6_noteFault wsX6_noteFault) := goodIn_app (goodIn_of _ (by decide +kernel)) ggX6_checkNumber_X6_noteFault
set_option maxRecDepth 20000 in
theorem ggX6_checkNumber_X5_indexOfGap : GoodIn wsX6_checkNumber wsX5_indexOfGap := goodIn_r _ [24, 25, 26, 34, 35, 36, 37, 38, 39, 40, 41, 42, 43, 44, 45, 46] (by decide +kernel) (by decide +kernel)
set_option maxRecDepth 20000 in
theorem gX6_checkNumber_X5_indexOfGap : GoodIn wsX6_checkNumber (wsV RX6 80 RX5 yX5_indexOfGap wsX5_indexOfGap) := goodIn_app (goodIn_of _ (by decide +kernel)) ggX6_checkNumber_X5_indexOfGap
theorem dX6_checkNumber_0 : decode cX6_checkNumber 0 = .ok (.aload_n 0, 1) := by decide +kernel
theorem dX6_checkNumber_1 : decode cX6_checkNumber 1 = .ok (.iload_n 2, 1) := by decide +kernel
theorem dX6_checkNumber_2 : decode cX6_checkNumber 2 = .ok (.iload_n 3, 1) := by decide +kernel
theorem dX6_checkNumber_3 : decode cX6_checkNumber 3 = .ok (.invokevirtual 76, 3) := by decide +kernel
theorem dX6_checkNumber_6 : decode cX6_checkNumber 6 = .ok (.ifCond .ne 11, 3) := by decide +kernel
theorem dX6_checkNumber_9 : decode cX6_checkNumber 9 = .ok (.aload_n 0, 1) := by decide +kernel
theorem dX6_checkNumber_10 : decode cX6_checkNumber 10 = .ok (.iconst 2, 1) := by decide +kernel
theorem dX6_checkNumber_11 : decode cX6_checkNumber 11 = .ok (.invokevirtual 52, 3) := by decide +kernel
theorem dX6_checkNumber_14 : decode cX6_checkNumber 14 = .ok (.goto 26, 3) := by decide +kernel
theorem dX6_checkNumber_17 : decode cX6_checkNumber 17 = .ok (.iload_n 2, 1) := by decide +kernel
theorem dX6_checkNumber_18 : decode cX6_checkNumber 18 = .ok (.bipush 7, 2) := by decide +kernel
theorem dX6_checkNumber_20 : decode cX6_checkNumber 20 = .ok (.if_icmp .ne 20, 3) := by decide +kernel
theorem dX6_checkNumber_23 : decode cX6_checkNumber 23 = .ok (.aload_n 1, 1) := by decide +kernel
theorem dX6_checkNumber_24 : decode cX6_checkNumber 24 = .ok (.aload_n 0, 1) := by decide +kernel
theorem dX6_checkNumber_25 : decode cX6_checkNumber 25 = .ok (.getfield 60, 3) := by decide +kernel
theorem dX6_checkNumber_28 : decode cX6_checkNumber 28 = .ok (.invokevirtual 80, 3) := by decide +kernel
theorem dX6_checkNumber_31 : decode cX6_checkNumber 31 = .ok (.iconst (-1), 1) := by decide +kernel
theorem dX6_checkNumber_32 : decode cX6_checkNumber 32 = .ok (.if_icmp .eq 8, 3) := by decide +kernel
theorem dX6_checkNumber_35 : decode cX6_checkNumber 35 = .ok (.aload_n 0, 1) := by decide +kernel
theorem dX6_checkNumber_36 : decode cX6_checkNumber 36 = .ok (.iconst 3, 1) := by decide +kernel
theorem dX6_checkNumber_37 : decode cX6_checkNumber 37 = .ok (.invokevirtual 52, 3) := by decide +kernel
theorem dX6_checkNumber_40 : decode cX6_checkNumber 40 = .ok (.return_, 1) := by decide +kernel
set_option maxRecDepth 20000 in
theorem ggX6_canBe_X10_isGap : GoodIn wsX6_canBe wsX10_isGap := goodIn_r _ [4, 5, 6, 3, 7] (by decide +kernel) (by decide +kernel)
set_option maxRecDepth 20000 in
theorem gX6_canBe_X10_isGap_n84 : GoodIn wsX6_canBe (wsX10_isGap) := ggX6_canBe_X10_isGap
set_option maxRecDepth 20000 in
theorem ggX6_canBe_X10_isWithin : GoodIn wsX6_canBe wsX10_isWithin := goodIn_r _ [7] (by decide +kernel) (by decide +kernel)
set_option maxRecDepth 20000 in
theorem gX6_canBe_X10_isWithin_n94 : GoodIn wsX6_canBe (wsX10_isWithin) := ggX6_canBe_X10_isWithin
theorem dX6_canBe_0 : decode cX6_canBe 0 = .ok (.iload_n 1, 1) := by decide +kernel
theorem dX6_canBe_1 : decode cX6_canBe 1 = .ok (.bipush 7, 2) := by decide +kernel
theorem dX6_canBe_3 : decode cX6_canBe 3 = .ok (.if_icmp .ne 11, 3) := by decide +kernel
theorem dX6_canBe_6 : decode cX6_canBe 6 = .ok (.aload_n 0, 1) := by decide +kernel
theorem dX6_canBe_7 : decode cX6_canBe 7 = .ok (.getfield 60, 3) := by decide +kernel
theorem dX6_canBe_10 : decode cX6_canBe 10 = .ok (.invokestatic 84, 3) := by decide +kernel
theorem dX6_canBe_13 : decode cX6_canBe 13 = .ok (.ireturn, 1) := by decide +kernel
theorem dX6_canBe_14 : decode cX6_canBe 14 = .ok (.iload_n 1, 1) := by decide +kernel
theorem dX6_canBe_15 : decode cX6_canBe 15 = .ok (.bipush 7, 2) := by decide +kernel
theorem dX6_canBe_17 : decode cX6_canBe 17 = .ok (.if_icmp .ge 21, 3) := by decide +kernel
theorem dX6_canBe_20 : decode cX6_canBe 20 = .ok (.aload_n 0, 1) := by decide +kernel
theorem dX6_canBe_21 : decode cX6_canBe 21 = .ok (.getfield 60, 3) := by decide +kernel
theorem dX6_canBe_24 : decode cX6_canBe 24 = .ok (.getstatic 88, 3) := by decide +kernel
theorem dX6_canBe_27 : decode cX6_canBe 27 = .ok (.iload_n 1, 1) := by decide +kernel
theorem dX6_canBe_28 : decode cX6_canBe 28 = .ok (.iaload, 1) := by decide +kernel
theorem dX6_canBe_29 : decode cX6_canBe 29 = .ok (.getstatic 91, 3) := by decide +kernel
theorem dX6_canBe_32 : decode cX6_canBe 32 = .ok (.iload_n 1, 1) := by decide +kernel
theorem dX6_canBe_33 : decode cX6_canBe 33 = .ok (.iaload, 1) := by decide +kernel
theorem dX6_canBe_34 : decode cX6_canBe 34 = .ok (.invokestatic 94, 3) := by decide +kernel
theorem dX6_canBe_37 : decode cX6_canBe 37 = .ok (.ireturn, 1) := by decide +kernel
theorem dX6_canBe_38 : decode cX6_canBe 38 = .ok (.iload_n 2, 1) := by decide +kernel
theorem dX6_canBe_39 : decode cX6_canBe 39 = .ok (.lookupswitch 49 #[(0, 25), (1, 37)], 25) := by decide +kernel
theorem dX6_canBe_64 : decode cX6_canBe 64 = .ok (.aload_n 0, 1) := by decide +kernel
theorem dX6_canBe_65 : decode cX6_canBe 65 = .ok (.getfield 60, 3) := by decide +kernel
theorem dX6_canBe_68 : decode cX6_canBe 68 = .ok (.iconst 0, 1) := by decide +kernel
theorem dX6_canBe_69 : decode cX6_canBe 69 = .ok (.sipush 2999, 3) := by decide +kernel
theorem dX6_canBe_72 : decode cX6_canBe 72 = .ok (.invokestatic 94, 3) := by decide +kernel
theorem dX6_canBe_75 : decode cX6_canBe 75 = .ok (.ireturn, 1) := by decide +kernel
theorem dX6_canBe_76 : decode cX6_canBe 76 = .ok (.aload_n 0, 1) := by decide +kernel
theorem dX6_canBe_77 : decode cX6_canBe 77 = .ok (.getfield 60, 3) := by decide +kernel
theorem dX6_canBe_80 : decode cX6_canBe 80 = .ok (.iconst 0, 1) := by decide +kernel
theorem dX6_canBe_81 : decode cX6_canBe 81 = .ok (.sipush 500, 3) := by decide +kernel
theorem dX6_canBe_84 : decode cX6_canBe 84 = .ok (.invokestatic 94, 3) := by decide +kernel
theorem dX6_canBe_87 : decode cX6_canBe 87 = .ok (.ireturn, 1) := by decide +kernel
theorem dX6_canBe_88 : decode cX6_canBe 88 = .ok (.aload_n 0, 1) := by decide +kernel
theorem dX6_canBe_89 : decode cX6_canBe 89 = .ok (.getfield 60, 3) := by decide +kernel
theorem dX6_canBe_92 : decode cX6_canBe 92 = .ok (.iconst 1, 1) := by decide +kernel
theorem dX6_canBe_93 : decode cX6_canBe 93 = .ok (.bipush 99, 2) := by decide +kernel
theorem dX6_canBe_95 : decode cX6_canBe 95 = .ok (.invokestatic 94, 3) := by decide +kernel
theorem dX6_canBe_98 : decode cX6_canBe 98 = .ok (.ireturn, 1) := by decide +kernel
set_option maxRecDepth 20000 in
theorem ggX6_apply_X5_addGap : GoodIn wsX6_apply wsX5_addGap := goodIn_r _ [7, 8, 9, 25, 26, 27, 28, 29, 30, 31, 32, 33, 34, 35, 36, 37] (by decide +kernel) (by decide +kernel)
set_option maxRecDepth 20000 in
theorem gX6_apply_X5_addGap : GoodIn wsX6_apply (wsV RX6 98 RX5 yX5_addGap wsX5_addGap) := goodIn_app (goodIn_of _ (by decide +kernel)) ggX6_apply_X5_addGap
set_option maxRecDepth 20000 in
theorem ggX6_apply_X5_addTarget : GoodIn wsX6_apply wsX5_addTarget := goodIn_r _ [13, 14, 15, 16, 17, 25, 26, 27, 28, 29, 30, 31, 32, 33, 34, 35, 36, 37] (by decide +kernel) (by decide +kernel)
set_option maxRecDepth 20000 in
theorem gX6_apply_X5_addTarget : GoodIn wsX6_apply (wsV RX6 104 RX5 yX5_addTarget wsX5_addTarget) := goodIn_app (goodIn_of _ (by decide +kernel)) ggX6_apply_X5_addTarget
theorem dX6_apply_0 : decode cX6_apply 0 = .ok (.iload_n 2, 1) := by decide +kernel
theorem dX6_apply_1 : decode cX6_apply 1 = .ok (.bipush 7, 2) := by decide +kernel
theorem dX6_apply_3 : decode cX6_apply 3 = .ok (.if_icmp .ne 16, 3) := by decide +kernel
theorem dX6_apply_6 : decode cX6_apply 6 = .ok (.aload_n 1, 1) := by decide +kernel
theorem dX6_apply_7 : decode cX6_apply 7 = .ok (.aload_n 0, 1) := by decide +kernel
theorem dX6_apply_8 : decode cX6_apply 8 = .ok (.getfield 9, 3) := by decide +kernel
theorem dX6_apply_11 : decode cX6_apply 11 = .ok (.iconst 0, 1) := by decide +kernel
theorem dX6_apply_12 : decode cX6_apply 12 = .ok (.iaload, 1) := by decide +kernel
theorem dX6_apply_13 : decode cX6_apply 13 = .ok (.invokevirtual 98, 3) := by decide +kernel
theorem dX6_apply_16 : decode cX6_apply 16 = .ok (.goto 64, 3) := by decide +kernel
theorem dX6_apply_19 : decode cX6_apply 19 = .ok (.iload_n 2, 1) := by decide +kernel
theorem dX6_apply_20 : decode cX6_apply 20 = .ok (.bipush 7, 2) := by decide +kernel
theorem dX6_apply_22 : decode cX6_apply 22 = .ok (.if_icmp .ge 18, 3) := by decide +kernel
theorem dX6_apply_25 : decode cX6_apply 25 = .ok (.aload_n 1, 1) := by decide +kernel
theorem dX6_apply_26 : decode cX6_apply 26 = .ok (.getfield 101, 3) := by decide +kernel
theorem dX6_apply_29 : decode cX6_apply 29 = .ok (.iload_n 2, 1) := by decide +kernel
theorem dX6_apply_30 : decode cX6_apply 30 = .ok (.aload_n 0, 1) := by decide +kernel
theorem dX6_apply_31 : decode cX6_apply 31 = .ok (.getfield 9, 3) := by decide +kernel
theorem dX6_apply_34 : decode cX6_apply 34 = .ok (.iconst 0, 1) := by decide +kernel
theorem dX6_apply_35 : decode cX6_apply 35 = .ok (.iaload, 1) := by decide +kernel
theorem dX6_apply_36 : decode cX6_apply 36 = .ok (.iastore, 1) := by decide +kernel
theorem dX6_apply_37 : decode cX6_apply 37 = .ok (.goto 43, 3) := by decide +kernel
theorem dX6_apply_40 : decode cX6_apply 40 = .ok (.iload_n 2, 1) := by decide +kernel
theorem dX6_apply_41 : decode cX6_apply 41 = .ok (.bipush 8, 2) := by decide +kernel
theorem dX6_apply_43 : decode cX6_apply 43 = .ok (.if_icmp .ne 13, 3) := by decide +kernel
theorem dX6_apply_46 : decode cX6_apply 46 = .ok (.aload_n 0, 1) := by decide +kernel
theorem dX6_apply_47 : decode cX6_apply 47 = .ok (.getfield 9, 3) := by decide +kernel
theorem dX6_apply_50 : decode cX6_apply 50 = .ok (.iconst 1, 1) := by decide +kernel
theorem dX6_apply_51 : decode cX6_apply 51 = .ok (.iaload, 1) := by decide +kernel
theorem dX6_apply_52 : decode cX6_apply 52 = .ok (.ineg, 1) := by decide +kernel
theorem dX6_apply_53 : decode cX6_apply 53 = .ok (.goto 9, 3) := by decide +kernel
theorem dX6_apply_56 : decode cX6_apply 56 = .ok (.aload_n 0, 1) := by decide +kernel
theorem dX6_apply_57 : decode cX6_apply 57 = .ok (.getfield 9, 3) := by decide +kernel
theorem dX6_apply_60 : decode cX6_apply 60 = .ok (.iconst 1, 1) := by decide +kernel
theorem dX6_apply_61 : decode cX6_apply 61 = .ok (.iaload, 1) := by decide +kernel
theorem dX6_apply_62 : decode cX6_apply 62 = .ok (.istore_n 3, 1) := by decide +kernel
theorem dX6_apply_63 : decode cX6_apply 63 = .ok (.aload_n 1, 1) := by decide +kernel
theorem dX6_apply_64 : decode cX6_apply 64 = .ok (.aload_n 0, 1) := by decide +kernel
theorem dX6_apply_65 : decode cX6_apply 65 = .ok (.getfield 9, 3) := by decide +kernel
theorem dX6_apply_68 : decode cX6_apply 68 = .ok (.iconst 0, 1) := by decide +kernel
theorem dX6_apply_69 : decode cX6_apply 69 = .ok (.iaload, 1) := by decide +kernel
theorem dX6_apply_70 : decode cX6_apply 70 = .ok (.iload_n 3, 1) := by decide +kernel
theorem dX6_apply_71 : decode cX6_apply 71 = .ok (.aload_n 0, 1) := by decide +kernel
theorem dX6_apply_72 : decode cX6_apply 72 = .ok (.getfield 9, 3) := by decide +kernel
theorem dX6_apply_75 : decode cX6_apply 75 = .ok (.iconst 2, 1) := by decide +kernel
theorem dX6_apply_76 : decode cX6_apply 76 = .ok (.iaload, 1) := by decide +kernel
theorem dX6_apply_77 : decode cX6_apply 77 = .ok (.invokevirtual 104, 3) := by decide +kernel
theorem dX6_apply_80 : decode cX6_apply 80 = .ok (.return_, 1) := by decide +kernel
set_option maxRecDepth 20000 in
theorem ggX6_step_X6_isBlank : GoodIn wsX6_step wsX6_isBlank := goodIn_r _ [9] (by decide +kernel) (by decide +kernel)
set_option maxRecDepth 20000 in
theorem gX6_step_X6_isBlank : GoodIn wsX6_step (va_wsS RX6 116 yX6_isBlank wsX6_isBlank) := goodIn_app (goodIn_of _ (by decide +kernel)) ggX6_step_X6_isBlank
set_option maxRecDepth 20000 in
theorem ggX6_step_X6_isLetter : GoodIn wsX6_step wsX6_isLetter := goodIn_r _ [12] (by decide +kernel) (by decide +kernel)
set_option maxRecDepth 20000 in
theorem gX6_step_X6_isLetter : GoodIn wsX6_step (va_wsS RX6 119 yX6_isLetter wsX6_isLetter) := goodIn_app (goodIn_of _ (by decide +kernel)) ggX6_step_X6_isLetter
set_option maxRecDepth 20000 in
theorem ggX6_step_X6_isDigit : GoodIn wsX6_step wsX6_isDigit := goodIn_r _ [15] (by decide +kernel) (by decide +kernel)
set_option maxRecDepth 20000 in
theorem gX6_step_X6_isDigit : GoodIn wsX6_step (va_wsS RX6 122 yX6_isDigit wsX6_isDigit) := goodIn_app (goodIn_of _ (by decide +kernel)) ggX6_step_X6_isDigit
set_option maxRecDepth 20000 in
theorem ggX6_step_X6_stepOverDigits : GoodIn wsX6_step wsX6_stepOverDigits := goodIn_r _ [19, 20, 1, 2, 3, 4, 5, 13, 14, 8, 15, 21, 22, 23, 24, 25, 26, 27, 28, 29, 30, 31] (by decide +kernel) (by decide +kernel)
set_option maxRecDepth 20000 in
theorem gX6_step_X6_stepOverDigits : GoodIn wsX6_step (wsV RX6 125 RX6 yX6_stepOverDigits wsX6_stepOverDigits) := goodIn_app (goodIn_of _ (by decide +kernel)) ggX6_step_X6_stepOverDigits
theorem dX6_step_0 : decode cX6_step 0 = .ok (.aload_n 0, 1) := by decide +kernel
theorem dX6_step_1 : decode cX6_step 1 = .ok (.getfield 22, 3) := by decide +kernel
theorem dX6_step_4 : decode cX6_step 4 = .ok (.aload_n 1, 1) := by decide +kernel
theorem dX6_step_5 : decode cX6_step 5 = .ok (.getfield 108, 3) := by decide +kernel
theorem dX6_step_8 : decode cX6_step 8 = .ok (.if_icmp .ge 31, 3) := by decide +kernel
theorem dX6_step_11 : decode cX6_step 11 = .ok (.aload_n 1, 1) := by decide +kernel
theorem dX6_step_12 : decode cX6_step 12 = .ok (.getfield 113, 3) := by decide +kernel
theorem dX6_step_15 : decode cX6_step 15 = .ok (.aload_n 0, 1) := by decide +kernel
theorem dX6_step_16 : decode cX6_step 16 = .ok (.getfield 22, 3) := by decide +kernel
theorem dX6_step_19 : decode cX6_step 19 = .ok (.iaload, 1) := by decide +kernel
theorem dX6_step_20 : decode cX6_step 20 = .ok (.invokestatic 116, 3) := by decide +kernel
theorem dX6_step_23 : decode cX6_step 23 = .ok (.ifCond .eq 16, 3) := by decide +kernel
theorem dX6_step_26 : decode cX6_step 26 = .ok (.aload_n 0, 1) := by decide +kernel
theorem dX6_step_27 : decode cX6_step 27 = .ok (.dup, 1) := by decide +kernel
theorem dX6_step_28 : decode cX6_step 28 = .ok (.getfield 22, 3) := by decide +kernel
theorem dX6_step_31 : decode cX6_step 31 = .ok (.iconst 1, 1) := by decide +kernel
theorem dX6_step_32 : decode cX6_step 32 = .ok (.iadd, 1) := by decide +kernel
theorem dX6_step_33 : decode cX6_step 33 = .ok (.putfield 22, 3) := by decide +kernel
theorem dX6_step_36 : decode cX6_step 36 = .ok (.goto (-36), 3) := by decide +kernel
theorem dX6_step_39 : decode cX6_step 39 = .ok (.aload_n 0, 1) := by decide +kernel
theorem dX6_step_40 : decode cX6_step 40 = .ok (.aload_n 0, 1) := by decide +kernel
theorem dX6_step_41 : decode cX6_step 41 = .ok (.getfield 22, 3) := by decide +kernel
theorem dX6_step_44 : decode cX6_step 44 = .ok (.putfield 67, 3) := by decide +kernel
theorem dX6_step_47 : decode cX6_step 47 = .ok (.aload_n 0, 1) := by decide +kernel
theorem dX6_step_48 : decode cX6_step 48 = .ok (.getfield 22, 3) := by decide +kernel
theorem dX6_step_51 : decode cX6_step 51 = .ok (.aload_n 1, 1) := by decide +kernel
theorem dX6_step_52 : decode cX6_step 52 = .ok (.getfield 108, 3) := by decide +kernel
theorem dX6_step_55 : decode cX6_step 55 = .ok (.if_icmp .lt 11, 3) := by decide +kernel
theorem dX6_step_58 : decode cX6_step 58 = .ok (.aload_n 0, 1) := by decide +kernel
theorem dX6_step_59 : decode cX6_step 59 = .ok (.iconst 0, 1) := by decide +kernel
theorem dX6_step_60 : decode cX6_step 60 = .ok (.putfield 34, 3) := by decide +kernel
theorem dX6_step_63 : decode cX6_step 63 = .ok (.goto 118, 3) := by decide +kernel
theorem dX6_step_66 : decode cX6_step 66 = .ok (.aload_n 1, 1) := by decide +kernel
theorem dX6_step_67 : decode cX6_step 67 = .ok (.getfield 113, 3) := by decide +kernel
theorem dX6_step_70 : decode cX6_step 70 = .ok (.aload_n 0, 1) := by decide +kernel
theorem dX6_step_71 : decode cX6_step 71 = .ok (.getfield 22, 3) := by decide +kernel
theorem dX6_step_74 : decode cX6_step 74 = .ok (.iaload, 1) := by decide +kernel
theorem dX6_step_75 : decode cX6_step 75 = .ok (.invokestatic 119, 3) := by decide +kernel
theorem dX6_step_78 : decode cX6_step 78 = .ok (.ifCond .eq 47, 3) := by decide +kernel
theorem dX6_step_81 : decode cX6_step 81 = .ok (.aload_n 0, 1) := by decide +kernel
theorem dX6_step_82 : decode cX6_step 82 = .ok (.iconst 1, 1) := by decide +kernel
theorem dX6_step_83 : decode cX6_step 83 = .ok (.putfield 34, 3) := by decide +kernel
theorem dX6_step_86 : decode cX6_step 86 = .ok (.aload_n 0, 1) := by decide +kernel
theorem dX6_step_87 : decode cX6_step 87 = .ok (.getfield 22, 3) := by decide +kernel
theorem dX6_step_90 : decode cX6_step 90 = .ok (.aload_n 1, 1) := by decide +kernel
theorem dX6_step_91 : decode cX6_step 91 = .ok (.getfield 108, 3) := by decide +kernel
theorem dX6_step_94 : decode cX6_step 94 = .ok (.if_icmp .ge 87, 3) := by decide +kernel
theorem dX6_step_97 : decode cX6_step 97 = .ok (.aload_n 1, 1) := by decide +kernel
theorem dX6_step_98 : decode cX6_step 98 = .ok (.getfield 113, 3) := by decide +kernel
theorem dX6_step_101 : decode cX6_step 101 = .ok (.aload_n 0, 1) := by decide +kernel
theorem dX6_step_102 : decode cX6_step 102 = .ok (.getfield 22, 3) := by decide +kernel
theorem dX6_step_105 : decode cX6_step 105 = .ok (.iaload, 1) := by decide +kernel
theorem dX6_step_106 : decode cX6_step 106 = .ok (.invokestatic 119, 3) := by decide +kernel
theorem dX6_step_109 : decode cX6_step 109 = .ok (.ifCond .eq 72, 3) := by decide +kernel
theorem dX6_step_112 : decode cX6_step 112 = .ok (.aload_n 0, 1) := by decide +kernel
theorem dX6_step_113 : decode cX6_step 113 = .ok (.dup, 1) := by decide +kernel
theorem dX6_step_114 : decode cX6_step 114 = .ok (.getfield 22, 3) := by decide +kernel
theorem dX6_step_117 : decode cX6_step 117 = .ok (.iconst 1, 1) := by decide +kernel
theorem dX6_step_118 : decode cX6_step 118 = .ok (.iadd, 1) := by decide +kernel
theorem dX6_step_119 : decode cX6_step 119 = .ok (.putfield 22, 3) := by decide +kernel
theorem dX6_step_122 : decode cX6_step 122 = .ok (.goto (-36), 3) := by decide +kernel
theorem dX6_step_125 : decode cX6_step 125 = .ok (.aload_n 1, 1) := by decide +kernel
theorem dX6_step_126 : decode cX6_step 126 = .ok (.getfield 113, 3) := by decide +kernel
theorem dX6_step_129 : decode cX6_step 129 = .ok (.aload_n 0, 1) := by decide +kernel
theorem dX6_step_130 : decode cX6_step 130 = .ok (.getfield 22, 3) := by decide +kernel
theorem dX6_step_133 : decode cX6_step 133 = .ok (.iaload, 1) := by decide +kernel
theorem dX6_step_134 : decode cX6_step 134 = .ok (.invokestatic 122, 3) := by decide +kernel
theorem dX6_step_137 : decode cX6_step 137 = .ok (.ifCond .eq 11, 3) := by decide +kernel
theorem dX6_step_140 : decode cX6_step 140 = .ok (.aload_n 0, 1) := by decide +kernel
theorem dX6_step_141 : decode cX6_step 141 = .ok (.aload_n 1, 1) := by decide +kernel
theorem dX6_step_142 : decode cX6_step 142 = .ok (.invokevirtual 125, 3) := by decide +kernel
theorem dX6_step_145 : decode cX6_step 145 = .ok (.goto 36, 3) := by decide +kernel
theorem dX6_step_148 : decode cX6_step 148 = .ok (.aload_n 0, 1) := by decide +kernel
theorem dX6_step_149 : decode cX6_step 149 = .ok (.aload_n 1, 1) := by decide +kernel
theorem dX6_step_150 : decode cX6_step 150 = .ok (.getfield 113, 3) := by decide +kernel
theorem dX6_step_153 : decode cX6_step 153 = .ok (.aload_n 0, 1) := by decide +kernel
theorem dX6_step_154 : decode cX6_step 154 = .ok (.getfield 22, 3) := by decide +kernel
theorem dX6_step_157 : decode cX6_step 157 = .ok (.iaload, 1) := by decide +kernel
theorem dX6_step_158 : decode cX6_step 158 = .ok (.bipush 59, 2) := by decide +kernel
theorem dX6_step_160 : decode cX6_step 160 = .ok (.if_icmp .ne 7, 3) := by decide +kernel
theorem dX6_step_163 : decode cX6_step 163 = .ok (.iconst 3, 1) := by decide +kernel
theorem dX6_step_164 : decode cX6_step 164 = .ok (.goto 4, 3) := by decide +kernel
theorem dX6_step_167 : decode cX6_step 167 = .ok (.iconst 4, 1) := by decide +kernel
theorem dX6_step_168 : decode cX6_step 168 = .ok (.putfield 34, 3) := by decide +kernel
theorem dX6_step_171 : decode cX6_step 171 = .ok (.aload_n 0, 1) := by decide +kernel
theorem dX6_step_172 : decode cX6_step 172 = .ok (.dup, 1) := by decide +kernel
theorem dX6_step_173 : decode cX6_step 173 = .ok (.getfield 22, 3) := by decide +kernel
theorem dX6_step_176 : decode cX6_step 176 = .ok (.iconst 1, 1) := by decide +kernel
theorem dX6_step_177 : decode cX6_step 177 = .ok (.iadd, 1) := by decide +kernel
theorem dX6_step_178 : decode cX6_step 178 = .ok (.putfield 22, 3) := by decide +kernel
theorem dX6_step_181 : decode cX6_step 181 = .ok (.return_, 1) := by decide +kernel
set_option maxRecDepth 20000 in
theorem ggX6_stepOverDigits_X6_isDigit : GoodIn wsX6_stepOverDigits wsX6_isDigit := goodIn_r _ [10] (by decide +kernel) (by decide +kernel)
set_option maxRecDepth 20000 in
theorem gX6_stepOverDigits_X6_isDigit : GoodIn wsX6_stepOverDigits (va_wsS RX6 122 yX6_isDigit wsX6_isDigit) := goodIn_app (goodIn_of _ (by decide +kernel)) ggX6_stepOverDigits_X6_isDigit
theorem dX6_stepOverDigits_0 : decode cX6_stepOverDigits 0 = .ok (.aload_n 0, 1) := by decide +kernel
theorem dX6_stepOverDigits_1 : decode cX6_stepOverDigits 1 = .ok (.iconst 0, 1) := by decide +kernel
theorem dX6_stepOverDigits_2 : decode cX6_stepOverDigits 2 = .ok (.putfield 60, 3) := by decide +kernel
theorem dX6_stepOverDigits_5 : decode cX6_stepOverDigits 5 = .ok (.aload_n 0, 1) := by decide +kernel
theorem dX6_stepOverDigits_6 : decode cX6_stepOverDigits 6 = .ok (.getfield 22, 3) := by decide +kernel
theorem dX6_stepOverDigits_9 : decode cX6_stepOverDigits 9 = .ok (.aload_n 1, 1) := by decide +kernel
theorem dX6_stepOverDigits_10 : decode cX6_stepOverDigits 10 = .ok (.getfield 108, 3) := by decide +kernel
theorem dX6_stepOverDigits_13 : decode cX6_stepOverDigits 13 = .ok (.if_icmp .ge 68, 3) := by decide +kernel
theorem dX6_stepOverDigits_16 : decode cX6_stepOverDigits 16 = .ok (.aload_n 1, 1) := by decide +kernel
theorem dX6_stepOverDigits_17 : decode cX6_stepOverDigits 17 = .ok (.getfield 113, 3) := by decide +kernel
theorem dX6_stepOverDigits_20 : decode cX6_stepOverDigits 20 = .ok (.aload_n 0, 1) := by decide +kernel
theorem dX6_stepOverDigits_21 : decode cX6_stepOverDigits 21 = .ok (.getfield 22, 3) := by decide +kernel
theorem dX6_stepOverDigits_24 : decode cX6_stepOverDigits 24 = .ok (.iaload, 1) := by decide +kernel
theorem dX6_stepOverDigits_25 : decode cX6_stepOverDigits 25 = .ok (.invokestatic 122, 3) := by decide +kernel
theorem dX6_stepOverDigits_28 : decode cX6_stepOverDigits 28 = .ok (.ifCond .eq 53, 3) := by decide +kernel
theorem dX6_stepOverDigits_31 : decode cX6_stepOverDigits 31 = .ok (.aload_n 0, 1) := by decide +kernel
theorem dX6_stepOverDigits_32 : decode cX6_stepOverDigits 32 = .ok (.getfield 22, 3) := by decide +kernel
theorem dX6_stepOverDigits_35 : decode cX6_stepOverDigits 35 = .ok (.aload_n 0, 1) := by decide +kernel
theorem dX6_stepOverDigits_36 : decode cX6_stepOverDigits 36 = .ok (.getfield 67, 3) := by decide +kernel
theorem dX6_stepOverDigits_39 : decode cX6_stepOverDigits 39 = .ok (.isub, 1) := by decide +kernel
theorem dX6_stepOverDigits_40 : decode cX6_stepOverDigits 40 = .ok (.iconst 4, 1) := by decide +kernel
theorem dX6_stepOverDigits_41 : decode cX6_stepOverDigits 41 = .ok (.if_icmp .ge 27, 3) := by decide +kernel
theorem dX6_stepOverDigits_44 : decode cX6_stepOverDigits 44 = .ok (.aload_n 0, 1) := by decide +kernel
theorem dX6_stepOverDigits_45 : decode cX6_stepOverDigits 45 = .ok (.aload_n 0, 1) := by decide +kernel
theorem dX6_stepOverDigits_46 : decode cX6_stepOverDigits 46 = .ok (.getfield 60, 3) := by decide +kernel
theorem dX6_stepOverDigits_49 : decode cX6_stepOverDigits 49 = .ok (.bipush 10, 2) := by decide +kernel
theorem dX6_stepOverDigits_51 : decode cX6_stepOverDigits 51 = .ok (.imul, 1) := by decide +kernel
theorem dX6_stepOverDigits_52 : decode cX6_stepOverDigits 52 = .ok (.aload_n 1, 1) := by decide +kernel
theorem dX6_stepOverDigits_53 : decode cX6_stepOverDigits 53 = .ok (.getfield 113, 3) := by decide +kernel
theorem dX6_stepOverDigits_56 : decode cX6_stepOverDigits 56 = .ok (.aload_n 0, 1) := by decide +kernel
theorem dX6_stepOverDigits_57 : decode cX6_stepOverDigits 57 = .ok (.getfield 22, 3) := by decide +kernel
theorem dX6_stepOverDigits_60 : decode cX6_stepOverDigits 60 = .ok (.iaload, 1) := by decide +kernel
theorem dX6_stepOverDigits_61 : decode cX6_stepOverDigits 61 = .ok (.iadd, 1) := by decide +kernel
theorem dX6_stepOverDigits_62 : decode cX6_stepOverDigits 62 = .ok (.bipush 48, 2) := by decide +kernel
theorem dX6_stepOverDigits_64 : decode cX6_stepOverDigits 64 = .ok (.isub, 1) := by decide +kernel
theorem dX6_stepOverDigits_65 : decode cX6_stepOverDigits 65 = .ok (.putfield 60, 3) := by decide +kernel
theorem dX6_stepOverDigits_68 : decode cX6_stepOverDigits 68 = .ok (.aload_n 0, 1) := by decide +kernel
theorem dX6_stepOverDigits_69 : decode cX6_stepOverDigits 69 = .ok (.dup, 1) := by decide +kernel
theorem dX6_stepOverDigits_70 : decode cX6_stepOverDigits 70 = .ok (.getfield 22, 3) := by decide +kernel
theorem dX6_stepOverDigits_73 : decode cX6_stepOverDigits 73 = .ok (.iconst 1, 1) := by decide +kernel
theorem dX6_stepOverDigits_74 : decode cX6_stepOverDigits 74 = .ok (.iadd, 1) := by decide +kernel
theorem dX6_stepOverDigits_75 : decode cX6_stepOverDigits 75 = .ok (.putfield 22, 3) := by decide +kernel
theorem dX6_stepOverDigits_78 : decode cX6_stepOverDigits 78 = .ok (.goto (-73), 3) := by decide +kernel
theorem dX6_stepOverDigits_81 : decode cX6_stepOverDigits 81 = .ok (.aload_n 0, 1) := by decide +kernel
theorem dX6_stepOverDigits_82 : decode cX6_stepOverDigits 82 = .ok (.aload_n 0, 1) := by decide +kernel
theorem dX6_stepOverDigits_83 : decode cX6_stepOverDigits 83 = .ok (.getfield 22, 3) := by decide +kernel
theorem dX6_stepOverDigits_86 : decode cX6_stepOverDigits 86 = .ok (.aload_n 0, 1) := by decide +kernel
theorem dX6_stepOverDigits_87 : decode cX6_stepOverDigits 87 = .ok (.getfield 67, 3) := by decide +kernel
theorem dX6_stepOverDigits_90 : decode cX6_stepOverDigits 90 = .ok (.isub, 1) := by decide +kernel
theorem dX6_stepOverDigits_91 : decode cX6_stepOverDigits 91 = .ok (.iconst 4, 1) := by decide +kernel
theorem dX6_stepOverDigits_92 : decode cX6_stepOverDigits 92 = .ok (.if_icmp .gt 7, 3) := by decide +kernel
theorem dX6_stepOverDigits_95 : decode cX6_stepOverDigits 95 = .ok (.iconst 2, 1) := by decide +kernel
theorem dX6_stepOverDigits_96 : decode cX6_stepOverDigits 96 = .ok (.goto 4, 3) := by decide +kernel
theorem dX6_stepOverDigits_99 : decode cX6_stepOverDigits 99 = .ok (.iconst 4, 1) := by decide +kernel
theorem dX6_stepOverDigits_100 : decode cX6_stepOverDigits 100 = .ok (.putfield 34, 3) := by decide +kernel
theorem dX6_stepOverDigits_103 : decode cX6_stepOverDigits 103 = .ok (.return_, 1) := by decide +kernel
theorem dX6_isBlank_0 : decode cX6_isBlank 0 = .ok (.iload_n 0, 1) := by decide +kernel
theorem dX6_isBlank_1 : decode cX6_isBlank 1 = .ok (.bipush 32, 2) := by decide +kernel
theorem dX6_isBlank_3 : decode cX6_isBlank 3 = .ok (.if_icmp .eq 9, 3) := by decide +kernel
theorem dX6_isBlank_6 : decode cX6_isBlank 6 = .ok (.iload_n 0, 1) := by decide +kernel
theorem dX6_isBlank_7 : decode cX6_isBlank 7 = .ok (.bipush 10, 2) := by decide +kernel
theorem dX6_isBlank_9 : decode cX6_isBlank 9 = .ok (.if_icmp .ne 7, 3) := by decide +kernel
theorem dX6_isBlank_12 : decode cX6_isBlank 12 = .ok (.iconst 1, 1) := by decide +kernel
theorem dX6_isBlank_13 : decode cX6_isBlank 13 = .ok (.goto 4, 3) := by decide +kernel
theorem dX6_isBlank_16 : decode cX6_isBlank 16 = .ok (.iconst 0, 1) := by decide +kernel
theorem dX6_isBlank_17 : decode cX6_isBlank 17 = .ok (.ireturn, 1) := by decide +kernel
theorem dX6_isLetter_0 : decode cX6_isLetter 0 = .ok (.iload_n 0, 1) := by decide +kernel
theorem dX6_isLetter_1 : decode cX6_isLetter 1 = .ok (.bipush 97, 2) := by decide +kernel
theorem dX6_isLetter_3 : decode cX6_isLetter 3 = .ok (.if_icmp .lt 13, 3) := by decide +kernel
theorem dX6_isLetter_6 : decode cX6_isLetter 6 = .ok (.iload_n 0, 1) := by decide +kernel
theorem dX6_isLetter_7 : decode cX6_isLetter 7 = .ok (.bipush 122, 2) := by decide +kernel
theorem dX6_isLetter_9 : decode cX6_isLetter 9 = .ok (.if_icmp .gt 7, 3) := by decide +kernel
theorem dX6_isLetter_12 : decode cX6_isLetter 12 = .ok (.iconst 1, 1) := by decide +kernel
theorem dX6_isLetter_13 : decode cX6_isLetter 13 = .ok (.goto 4, 3) := by decide +kernel
theorem dX6_isLetter_16 : decode cX6_isLetter 16 = .ok (.iconst 0, 1) := by decide +kernel
theorem dX6_isLetter_17 : decode cX6_isLetter 17 = .ok (.ireturn, 1) := by decide +kernel
theorem dX6_isDigit_0 : decode cX6_isDigit 0 = .ok (.iload_n 0, 1) := by decide +kernel
theorem dX6_isDigit_1 : decode cX6_isDigit 1 = .ok (.bipush 48, 2) := by decide +kernel
theorem dX6_isDigit_3 : decode cX6_isDigit 3 = .ok (.if_icmp .lt 13, 3) := by decide +kernel
theorem dX6_isDigit_6 : decode cX6_isDigit 6 = .ok (.iload_n 0, 1) := by decide +kernel
theorem dX6_isDigit_7 : decode cX6_isDigit 7 = .ok (.bipush 57, 2) := by decide +kernel
theorem dX6_isDigit_9 : decode cX6_isDigit 9 = .ok (.if_icmp .gt 7, 3) := by decide +kernel
theorem dX6_isDigit_12 : decode cX6_isDigit 12 = .ok (.iconst 1, 1) := by decide +kernel
theorem dX6_isDigit_13 : decode cX6_isDigit 13 = .ok (.goto 4, 3) := by decide +kernel
theorem dX6_isDigit_16 : decode cX6_isDigit 16 = .ok (.iconst 0, 1) := by decide +kernel
theorem dX6_isDigit_17 : decode cX6_isDigit 17 = .ok (.ireturn, 1) := by decide +kernel
set_option maxRecDepth 20000 in
theorem ggX6_wordOf_X6_lettersOf : GoodIn wsX6_wordOf wsX6_lettersOf := goodIn_r _ [4] (by decide +kernel) (by decide +kernel)
set_option maxRecDepth 20000 in
theorem gX6_wordOf_X6_lettersOf : GoodIn wsX6_wordOf (va_wsS RX6 128 yX6_lettersOf wsX6_lettersOf) := goodIn_app (goodIn_of _ (by decide +kernel)) ggX6_wordOf_X6_lettersOf
set_option maxRecDepth 20000 in
theorem ggX6_wordOf_X6_isSpelled : GoodIn wsX6_wordOf wsX6_isSpelled := goodIn_r _ [8, 9, 10, 11, 12, 13, 14, 15, 16, 17, 18, 19, 20, 21, 22, 23, 24, 25, 26, 27, 28, 29, 30, 31, 32, 33, 34, 35, 36, 37, 38, 39, 40, 41, 42, 43, 44, 45, 46, 47, 48, 49, 50, 51, 52, 53, 54, 55, 56, 57, 58, 59, 60, 61, 62, 63, 64, 65, 66, 67, 68, 69, 70, 71] (by decide +kernel) (by decide +kernel)
set_option maxRecDepth 20000 in
theorem gX6_wordOf_X6_isSpelled : GoodIn wsX6_wordOf (wsV RX6 132 RX6 yX6_isSpelled wsX6_isSpelled) := goodIn_app (goodIn_of _ (by decide +kernel)) ggX6_wordOf_X6_isSpelled
theorem dX6_wordOf_0 : decode cX6_wordOf 0 = .ok (.iconst 0, 1) := by decide +kernel
theorem dX6_wordOf_1 : decode cX6_wordOf 1 = .ok (.istore_n 2, 1) := by decide +kernel
theorem dX6_wordOf_2 : decode cX6_wordOf 2 = .ok (.iload_n 2, 1) := by decide +kernel
theorem dX6_wordOf_3 : decode cX6_wordOf 3 = .ok (.bipush 10, 2) := by decide +kernel
theorem dX6_wordOf_5 : decode cX6_wordOf 5 = .ok (.if_icmp .ge 23, 3) := by decide +kernel
theorem dX6_wordOf_8 : decode cX6_wordOf 8 = .ok (.aload_n 0, 1) := by decide +kernel
theorem dX6_wordOf_9 : decode cX6_wordOf 9 = .ok (.aload_n 1, 1) := by decide +kernel
theorem dX6_wordOf_10 : decode cX6_wordOf 10 = .ok (.iload_n 2, 1) := by decide +kernel
theorem dX6_wordOf_11 : decode cX6_wordOf 11 = .ok (.invokestatic 128, 3) := by decide +kernel
theorem dX6_wordOf_14 : decode cX6_wordOf 14 = .ok (.invokevirtual 132, 3) := by decide +kernel
theorem dX6_wordOf_17 : decode cX6_wordOf 17 = .ok (.ifCond .eq 5, 3) := by decide +kernel
theorem dX6_wordOf_20 : decode cX6_wordOf 20 = .ok (.iload_n 2, 1) := by decide +kernel
theorem dX6_wordOf_21 : decode cX6_wordOf 21 = .ok (.ireturn, 1) := by decide +kernel
theorem dX6_wordOf_22 : decode cX6_wordOf 22 = .ok (.iinc 2 1, 3) := by decide +kernel
theorem dX6_wordOf_25 : decode cX6_wordOf 25 = .ok (.goto (-23), 3) := by decide +kernel
theorem dX6_wordOf_28 : decode cX6_wordOf 28 = .ok (.iconst (-1), 1) := by decide +kernel
theorem dX6_wordOf_29 : decode cX6_wordOf 29 = .ok (.ireturn, 1) := by decide +kernel
set_option maxRecDepth 20000 in
theorem ggX6_isSpelled_J0_length_8abf5 : GoodIn wsX6_isSpelled wsJ0_length_8abf5 := goodIn_r _ [8, 9, 10, 11, 12, 7, 13, 14, 15] (by decide +kernel) (by decide +kernel)
set_option maxRecDepth 20000 in
theorem gX6_isSpelled_J0_length_8abf5 : GoodIn wsX6_isSpelled (wsV RX6 136 RJ0 yJ0_length_8abf5 wsJ0_length_8abf5) := goodIn_app (goodIn_of _ (by decide +kernel)) ggX6_isSpelled_J0_length_8abf5
set_option maxRecDepth 20000 in
theorem ggX6_isSpelled_J0_charAt_5068e : GoodIn wsX6_isSpelled wsJ0_charAt_5068e := goodIn_r _ [19, 9, 20, 21, 22, 7, 23, 14, 15, 24, 25, 26, 27, 28, 29, 30, 31, 32, 33, 34, 35, 36, 37, 38, 39, 40, 41, 42, 43, 44, 45, 46, 47, 48, 49, 50, 51, 52] (by decide +kernel) (by decide +kernel)
set_option maxRecDepth 20000 in
theorem gX6_isSpelled_J0_charAt_5068e : GoodIn wsX6_isSpelled (wsV RX6 142 RJ0 yJ0_charAt_5068e wsJ0_charAt_5068e) := goodIn_app (goodIn_of _ (by decide +kernel)) ggX6_isSpelled_J0_charAt_5068e
theorem dX6_isSpelled_0 : decode cX6_isSpelled 0 = .ok (.aload_n 0, 1) := by decide +kernel
theorem dX6_isSpelled_1 : decode cX6_isSpelled 1 = .ok (.getfield 22, 3) := by decide +kernel
theorem dX6_isSpelled_4 : decode cX6_isSpelled 4 = .ok (.aload_n 0, 1) := by decide +kernel
theorem dX6_isSpelled_5 : decode cX6_isSpelled 5 = .ok (.getfield 67, 3) := by decide +kernel
theorem dX6_isSpelled_8 : decode cX6_isSpelled 8 = .ok (.isub, 1) := by decide +kernel
theorem dX6_isSpelled_9 : decode cX6_isSpelled 9 = .ok (.istore_n 3, 1) := by decide +kernel
theorem dX6_isSpelled_10 : decode cX6_isSpelled 10 = .ok (.iload_n 3, 1) := by decide +kernel
theorem dX6_isSpelled_11 : decode cX6_isSpelled 11 = .ok (.aload_n 2, 1) := by decide +kernel
theorem dX6_isSpelled_12 : decode cX6_isSpelled 12 = .ok (.invokevirtual 136, 3) := by decide +kernel
theorem dX6_isSpelled_15 : decode cX6_isSpelled 15 = .ok (.if_icmp .eq 5, 3) := by decide +kernel
theorem dX6_isSpelled_18 : decode cX6_isSpelled 18 = .ok (.iconst 0, 1) := by decide +kernel
theorem dX6_isSpelled_19 : decode cX6_isSpelled 19 = .ok (.ireturn, 1) := by decide +kernel
theorem dX6_isSpelled_20 : decode cX6_isSpelled 20 = .ok (.iconst 0, 1) := by decide +kernel
theorem dX6_isSpelled_21 : decode cX6_isSpelled 21 = .ok (.istore 4, 2) := by decide +kernel
theorem dX6_isSpelled_23 : decode cX6_isSpelled 23 = .ok (.iload 4, 2) := by decide +kernel
theorem dX6_isSpelled_25 : decode cX6_isSpelled 25 = .ok (.iload_n 3, 1) := by decide +kernel
theorem dX6_isSpelled_26 : decode cX6_isSpelled 26 = .ok (.if_icmp .ge 32, 3) := by decide +kernel
theorem dX6_isSpelled_29 : decode cX6_isSpelled 29 = .ok (.aload_n 1, 1) := by decide +kernel
theorem dX6_isSpelled_30 : decode cX6_isSpelled 30 = .ok (.getfield 113, 3) := by decide +kernel
theorem dX6_isSpelled_33 : decode cX6_isSpelled 33 = .ok (.aload_n 0, 1) := by decide +kernel
theorem dX6_isSpelled_34 : decode cX6_isSpelled 34 = .ok (.getfield 67, 3) := by decide +kernel
theorem dX6_isSpelled_37 : decode cX6_isSpelled 37 = .ok (.iload 4, 2) := by decide +kernel
theorem dX6_isSpelled_39 : decode cX6_isSpelled 39 = .ok (.iadd, 1) := by decide +kernel
theorem dX6_isSpelled_40 : decode cX6_isSpelled 40 = .ok (.iaload, 1) := by decide +kernel
theorem dX6_isSpelled_41 : decode cX6_isSpelled 41 = .ok (.aload_n 2, 1) := by decide +kernel
theorem dX6_isSpelled_42 : decode cX6_isSpelled 42 = .ok (.iload 4, 2) := by decide +kernel
theorem dX6_isSpelled_44 : decode cX6_isSpelled 44 = .ok (.invokevirtual 142, 3) := by decide +kernel
theorem dX6_isSpelled_47 : decode cX6_isSpelled 47 = .ok (.if_icmp .eq 5, 3) := by decide +kernel
theorem dX6_isSpelled_50 : decode cX6_isSpelled 50 = .ok (.iconst 0, 1) := by decide +kernel
theorem dX6_isSpelled_51 : decode cX6_isSpelled 51 = .ok (.ireturn, 1) := by decide +kernel
theorem dX6_isSpelled_52 : decode cX6_isSpelled 52 = .ok (.iinc 4 1, 3) := by decide +kernel
theorem dX6_isSpelled_55 : decode cX6_isSpelled 55 = .ok (.goto (-32), 3) := by decide +kernel
theorem dX6_isSpelled_58 : decode cX6_isSpelled 58 = .ok (.iconst 1, 1) := by decide +kernel
theorem dX6_isSpelled_59 : decode cX6_isSpelled 59 = .ok (.ireturn, 1) := by decide +kernel
theorem dX6_lettersOf_0 : decode cX6_lettersOf 0 = .ok (.iload_n 0, 1) := by decide +kernel
theorem dX6_lettersOf_1 : decode cX6_lettersOf 1 = .ok (.tableswitch 78 0 8 #[51, 54, 57, 60, 63, 66, 69, 72, 75], 51) := by decide +kernel
theorem dX6_lettersOf_52 : decode cX6_lettersOf 52 = .ok (.ldc 146, 2) := by decide +kernel
theorem dX6_lettersOf_54 : decode cX6_lettersOf 54 = .ok (.areturn, 1) := by decide +kernel
theorem dX6_lettersOf_55 : decode cX6_lettersOf 55 = .ok (.ldc 148, 2) := by decide +kernel
theorem dX6_lettersOf_57 : decode cX6_lettersOf 57 = .ok (.areturn, 1) := by decide +kernel
theorem dX6_lettersOf_58 : decode cX6_lettersOf 58 = .ok (.ldc 150, 2) := by decide +kernel
theorem dX6_lettersOf_60 : decode cX6_lettersOf 60 = .ok (.areturn, 1) := by decide +kernel
theorem dX6_lettersOf_61 : decode cX6_lettersOf 61 = .ok (.ldc 152, 2) := by decide +kernel
theorem dX6_lettersOf_63 : decode cX6_lettersOf 63 = .ok (.areturn, 1) := by decide +kernel
theorem dX6_lettersOf_64 : decode cX6_lettersOf 64 = .ok (.ldc 154, 2) := by decide +kernel
theorem dX6_lettersOf_66 : decode cX6_lettersOf 66 = .ok (.areturn, 1) := by decide +kernel
theorem dX6_lettersOf_67 : decode cX6_lettersOf 67 = .ok (.ldc 156, 2) := by decide +kernel
theorem dX6_lettersOf_69 : decode cX6_lettersOf 69 = .ok (.areturn, 1) := by decide +kernel
theorem dX6_lettersOf_70 : decode cX6_lettersOf 70 = .ok (.ldc 158, 2) := by decide +kernel
theorem dX6_lettersOf_72 : decode cX6_lettersOf 72 = .ok (.areturn, 1) := by decide +kernel
theorem dX6_lettersOf_73 : decode cX6_lettersOf 73 = .ok (.ldc 160, 2) := by decide +kernel
theorem dX6_lettersOf_75 : decode cX6_lettersOf 75 = .ok (.areturn, 1) := by decide +kernel
theorem dX6_lettersOf_76 : decode cX6_lettersOf 76 = .ok (.ldc 162, 2) := by decide +kernel
theorem dX6_lettersOf_78 : decode cX6_lettersOf 78 = .ok (.areturn, 1) := by decide +kernel
theorem dX6_lettersOf_79 : decode cX6_lettersOf 79 = .ok (.ldc 164, 2) := by decide +kernel
theorem dX6_lettersOf_81 : decode cX6_lettersOf 81 = .ok (.areturn, 1) := by decide +kernel
set_option maxRecDepth 20000 in
theorem ggX7_blindGaps_X5_hides : GoodIn wsX7_blindGaps wsX5_hides := goodIn_r _ [7, 8, 9, 10, 11, 12, 13, 14, 15, 16, 17, 18, 19, 20, 21, 22, 23, 24] (by decide +kernel) (by decide +kernel)
set_option maxRecDepth 20000 in
theorem gX7_blindGaps_X5_hides : GoodIn wsX7_blindGaps (wsV RX7 19 RX5 yX5_hides wsX5_hides) := goodIn_app (goodIn_of _ (by decide +kernel)) ggX7_blindGaps_X5_hides
theorem dX7_blindGaps_0 : decode cX7_blindGaps 0 = .ok (.iconst 0, 1) := by decide +kernel
theorem dX7_blindGaps_1 : decode cX7_blindGaps 1 = .ok (.istore_n 2, 1) := by decide +kernel
theorem dX7_blindGaps_2 : decode cX7_blindGaps 2 = .ok (.iconst 0, 1) := by decide +kernel
theorem dX7_blindGaps_3 : decode cX7_blindGaps 3 = .ok (.istore_n 3, 1) := by decide +kernel
theorem dX7_blindGaps_4 : decode cX7_blindGaps 4 = .ok (.iload_n 3, 1) := by decide +kernel
theorem dX7_blindGaps_5 : decode cX7_blindGaps 5 = .ok (.aload_n 0, 1) := by decide +kernel
theorem dX7_blindGaps_6 : decode cX7_blindGaps 6 = .ok (.getfield 9, 3) := by decide +kernel
theorem dX7_blindGaps_9 : decode cX7_blindGaps 9 = .ok (.if_icmp .ge 29, 3) := by decide +kernel
theorem dX7_blindGaps_12 : decode cX7_blindGaps 12 = .ok (.aload_n 0, 1) := by decide +kernel
theorem dX7_blindGaps_13 : decode cX7_blindGaps 13 = .ok (.iload_n 1, 1) := by decide +kernel
theorem dX7_blindGaps_14 : decode cX7_blindGaps 14 = .ok (.aload_n 0, 1) := by decide +kernel
theorem dX7_blindGaps_15 : decode cX7_blindGaps 15 = .ok (.getfield 15, 3) := by decide +kernel
theorem dX7_blindGaps_18 : decode cX7_blindGaps 18 = .ok (.iload_n 3, 1) := by decide +kernel
theorem dX7_blindGaps_19 : decode cX7_blindGaps 19 = .ok (.iaload, 1) := by decide +kernel
theorem dX7_blindGaps_20 : decode cX7_blindGaps 20 = .ok (.invokevirtual 19, 3) := by decide +kernel
theorem dX7_blindGaps_23 : decode cX7_blindGaps 23 = .ok (.ifCond .eq 9, 3) := by decide +kernel
theorem dX7_blindGaps_26 : decode cX7_blindGaps 26 = .ok (.iload_n 2, 1) := by decide +kernel
theorem dX7_blindGaps_27 : decode cX7_blindGaps 27 = .ok (.iconst 1, 1) := by decide +kernel
theorem dX7_blindGaps_28 : decode cX7_blindGaps 28 = .ok (.iload_n 3, 1) := by decide +kernel
theorem dX7_blindGaps_29 : decode cX7_blindGaps 29 = .ok (.ishl, 1) := by decide +kernel
theorem dX7_blindGaps_30 : decode cX7_blindGaps 30 = .ok (.ior, 1) := by decide +kernel
theorem dX7_blindGaps_31 : decode cX7_blindGaps 31 = .ok (.istore_n 2, 1) := by decide +kernel
theorem dX7_blindGaps_32 : decode cX7_blindGaps 32 = .ok (.iinc 3 1, 3) := by decide +kernel
theorem dX7_blindGaps_35 : decode cX7_blindGaps 35 = .ok (.goto (-31), 3) := by decide +kernel
theorem dX7_blindGaps_38 : decode cX7_blindGaps 38 = .ok (.iload_n 2, 1) := by decide +kernel
theorem dX7_blindGaps_39 : decode cX7_blindGaps 39 = .ok (.ireturn, 1) := by decide +kernel
set_option maxRecDepth 20000 in
theorem ggX7_countBlind_X5_hides : GoodIn wsX7_countBlind wsX5_hides := goodIn_r _ [6, 7, 8, 9, 10, 11, 12, 13, 14, 15, 16, 17, 18, 19, 20, 21, 22, 23] (by decide +kernel) (by decide +kernel)
set_option maxRecDepth 20000 in
theorem gX7_countBlind_X5_hides : GoodIn wsX7_countBlind (wsV RX7 19 RX5 yX5_hides wsX5_hides) := goodIn_app (goodIn_of _ (by decide +kernel)) ggX7_countBlind_X5_hides
theorem dX7_countBlind_0 : decode cX7_countBlind 0 = .ok (.iconst 0, 1) := by decide +kernel
theorem dX7_countBlind_1 : decode cX7_countBlind 1 = .ok (.istore_n 2, 1) := by decide +kernel
theorem dX7_countBlind_2 : decode cX7_countBlind 2 = .ok (.iconst 1, 1) := by decide +kernel
theorem dX7_countBlind_3 : decode cX7_countBlind 3 = .ok (.istore_n 3, 1) := by decide +kernel
theorem dX7_countBlind_4 : decode cX7_countBlind 4 = .ok (.iload_n 3, 1) := by decide +kernel
theorem dX7_countBlind_5 : decode cX7_countBlind 5 = .ok (.aload_n 0, 1) := by decide +kernel
theorem dX7_countBlind_6 : decode cX7_countBlind 6 = .ok (.getfield 23, 3) := by decide +kernel
theorem dX7_countBlind_9 : decode cX7_countBlind 9 = .ok (.iconst 5, 1) := by decide +kernel
theorem dX7_countBlind_10 : decode cX7_countBlind 10 = .ok (.iaload, 1) := by decide +kernel
theorem dX7_countBlind_11 : decode cX7_countBlind 11 = .ok (.if_icmp .gt 21, 3) := by decide +kernel
theorem dX7_countBlind_14 : decode cX7_countBlind 14 = .ok (.aload_n 0, 1) := by decide +kernel
theorem dX7_countBlind_15 : decode cX7_countBlind 15 = .ok (.iload_n 3, 1) := by decide +kernel
theorem dX7_countBlind_16 : decode cX7_countBlind 16 = .ok (.iload_n 1, 1) := by decide +kernel
theorem dX7_countBlind_17 : decode cX7_countBlind 17 = .ok (.invokevirtual 19, 3) := by decide +kernel
theorem dX7_countBlind_20 : decode cX7_countBlind 20 = .ok (.ifCond .eq 6, 3) := by decide +kernel
theorem dX7_countBlind_23 : decode cX7_countBlind 23 = .ok (.iinc 2 1, 3) := by decide +kernel
theorem dX7_countBlind_26 : decode cX7_countBlind 26 = .ok (.iinc 3 1, 3) := by decide +kernel
theorem dX7_countBlind_29 : decode cX7_countBlind 29 = .ok (.goto (-25), 3) := by decide +kernel
theorem dX7_countBlind_32 : decode cX7_countBlind 32 = .ok (.iload_n 2, 1) := by decide +kernel
theorem dX7_countBlind_33 : decode cX7_countBlind 33 = .ok (.ireturn, 1) := by decide +kernel
set_option maxRecDepth 20000 in
theorem ggX7_countOpen_X7_blindGaps : GoodIn wsX7_countOpen wsX7_blindGaps := goodIn_r _ [5, 1, 6, 7, 8, 9, 10, 11, 12, 13, 14, 15, 23, 24, 25, 26, 27, 28, 29, 30, 31, 32, 33, 34, 35] (by decide +kernel) (by decide +kernel)
set_option maxRecDepth 20000 in
theorem gX7_countOpen_X7_blindGaps : GoodIn wsX7_countOpen (va_wsS RX7 26 yX7_blindGaps wsX7_blindGaps) := goodIn_app (goodIn_of _ (by decide +kernel)) ggX7_countOpen_X7_blindGaps
set_option maxRecDepth 20000 in
theorem ggX7_countOpen_J6_bitCount_0f7a4 : GoodIn wsX7_countOpen wsJ6_bitCount_0f7a4 := goodIn_r _ [19, 20, 21, 22] (by decide +kernel) (by decide +kernel)
set_option maxRecDepth 20000 in
theorem gX7_countOpen_J6_bitCount_0f7a4 : GoodIn wsX7_countOpen (va_wsS RX7 32 yJ6_bitCount_0f7a4 wsJ6_bitCount_0f7a4) := goodIn_app (goodIn_of _ (by decide +kernel)) ggX7_countOpen_J6_bitCount_0f7a4
theorem dX7_countOpen_0 : decode cX7_countOpen 0 = .ok (.aload_n 0, 1) := by decide +kernel
theorem dX7_countOpen_1 : decode cX7_countOpen 1 = .ok (.getfield 9, 3) := by decide +kernel
theorem dX7_countOpen_4 : decode cX7_countOpen 4 = .ok (.aload_n 0, 1) := by decide +kernel
theorem dX7_countOpen_5 : decode cX7_countOpen 5 = .ok (.iload_n 1, 1) := by decide +kernel
theorem dX7_countOpen_6 : decode cX7_countOpen 6 = .ok (.invokestatic 26, 3) := by decide +kernel
theorem dX7_countOpen_9 : decode cX7_countOpen 9 = .ok (.invokestatic 32, 3) := by decide +kernel
theorem dX7_countOpen_12 : decode cX7_countOpen 12 = .ok (.isub, 1) := by decide +kernel
theorem dX7_countOpen_13 : decode cX7_countOpen 13 = .ok (.ireturn, 1) := by decide +kernel
set_option maxRecDepth 20000 in
theorem ggX7_countDark_X7_countOpen : GoodIn wsX7_countDark wsX7_countOpen := goodIn_r _ [5, 6, 7, 8, 4, 9, 10, 11, 12, 13, 14, 15, 16, 17, 18, 19, 20, 21, 22, 23, 24, 25, 26, 27, 28, 29, 30, 31, 32, 33, 34, 35, 36, 37, 38, 39] (by decide +kernel) (by decide +kernel)
set_option maxRecDepth 20000 in
theorem gX7_countDark_X7_countOpen : GoodIn wsX7_countDark (va_wsS RX7 38 yX7_countOpen wsX7_countOpen) := goodIn_app (goodIn_of _ (by decide +kernel)) ggX7_countDark_X7_countOpen
theorem dX7_countDark_0 : decode cX7_countDark 0 = .ok (.iconst 0, 1) := by decide +kernel
theorem dX7_countDark_1 : decode cX7_countDark 1 = .ok (.istore_n 1, 1) := by decide +kernel
theorem dX7_countDark_2 : decode cX7_countDark 2 = .ok (.iconst 1, 1) := by decide +kernel
theorem dX7_countDark_3 : decode cX7_countDark 3 = .ok (.istore_n 2, 1) := by decide +kernel
theorem dX7_countDark_4 : decode cX7_countDark 4 = .ok (.iload_n 2, 1) := by decide +kernel
theorem dX7_countDark_5 : decode cX7_countDark 5 = .ok (.aload_n 0, 1) := by decide +kernel
theorem dX7_countDark_6 : decode cX7_countDark 6 = .ok (.getfield 23, 3) := by decide +kernel
theorem dX7_countDark_9 : decode cX7_countDark 9 = .ok (.iconst 5, 1) := by decide +kernel
theorem dX7_countDark_10 : decode cX7_countDark 10 = .ok (.iaload, 1) := by decide +kernel
theorem dX7_countDark_11 : decode cX7_countDark 11 = .ok (.if_icmp .gt 26, 3) := by decide +kernel
theorem dX7_countDark_14 : decode cX7_countDark 14 = .ok (.aload_n 0, 1) := by decide +kernel
theorem dX7_countDark_15 : decode cX7_countDark 15 = .ok (.iload_n 2, 1) := by decide +kernel
theorem dX7_countDark_16 : decode cX7_countDark 16 = .ok (.invokestatic 38, 3) := by decide +kernel
theorem dX7_countDark_19 : decode cX7_countDark 19 = .ok (.aload_n 0, 1) := by decide +kernel
theorem dX7_countDark_20 : decode cX7_countDark 20 = .ok (.getfield 23, 3) := by decide +kernel
theorem dX7_countDark_23 : decode cX7_countDark 23 = .ok (.iconst 4, 1) := by decide +kernel
theorem dX7_countDark_24 : decode cX7_countDark 24 = .ok (.iaload, 1) := by decide +kernel
theorem dX7_countDark_25 : decode cX7_countDark 25 = .ok (.if_icmp .ge 6, 3) := by decide +kernel
theorem dX7_countDark_28 : decode cX7_countDark 28 = .ok (.iinc 1 1, 3) := by decide +kernel
theorem dX7_countDark_31 : decode cX7_countDark 31 = .ok (.iinc 2 1, 3) := by decide +kernel
theorem dX7_countDark_34 : decode cX7_countDark 34 = .ok (.goto (-30), 3) := by decide +kernel
theorem dX7_countDark_37 : decode cX7_countDark 37 = .ok (.iload_n 1, 1) := by decide +kernel
theorem dX7_countDark_38 : decode cX7_countDark 38 = .ok (.ireturn, 1) := by decide +kernel
set_option maxRecDepth 20000 in
theorem ggX7_darkAt_X7_countOpen : GoodIn wsX7_darkAt wsX7_countOpen := goodIn_r _ [5, 6, 7, 8, 4, 9, 10, 11, 12, 13, 14, 15, 16, 17, 18, 19, 20, 21, 22, 23, 24, 25, 26, 27, 28, 29, 30, 31, 32, 33, 34, 35, 36, 37, 38, 39] (by decide +kernel) (by decide +kernel)
set_option maxRecDepth 20000 in
theorem gX7_darkAt_X7_countOpen : GoodIn wsX7_darkAt (va_wsS RX7 38 yX7_countOpen wsX7_countOpen) := goodIn_app (goodIn_of _ (by decide +kernel)) ggX7_darkAt_X7_countOpen
theorem dX7_darkAt_0 : decode cX7_darkAt 0 = .ok (.iload_n 1, 1) := by decide +kernel
theorem dX7_darkAt_1 : decode cX7_darkAt 1 = .ok (.istore_n 2, 1) := by decide +kernel
theorem dX7_darkAt_2 : decode cX7_darkAt 2 = .ok (.iconst 1, 1) := by decide +kernel
theorem dX7_darkAt_3 : decode cX7_darkAt 3 = .ok (.istore_n 3, 1) := by decide +kernel
theorem dX7_darkAt_4 : decode cX7_darkAt 4 = .ok (.iload_n 3, 1) := by decide +kernel
theorem dX7_darkAt_5 : decode cX7_darkAt 5 = .ok (.aload_n 0, 1) := by decide +kernel
theorem dX7_darkAt_6 : decode cX7_darkAt 6 = .ok (.getfield 23, 3) := by decide +kernel
theorem dX7_darkAt_9 : decode cX7_darkAt 9 = .ok (.iconst 5, 1) := by decide +kernel
theorem dX7_darkAt_10 : decode cX7_darkAt 10 = .ok (.iaload, 1) := by decide +kernel
theorem dX7_darkAt_11 : decode cX7_darkAt 11 = .ok (.if_icmp .gt 32, 3) := by decide +kernel
theorem dX7_darkAt_14 : decode cX7_darkAt 14 = .ok (.aload_n 0, 1) := by decide +kernel
theorem dX7_darkAt_15 : decode cX7_darkAt 15 = .ok (.iload_n 3, 1) := by decide +kernel
theorem dX7_darkAt_16 : decode cX7_darkAt 16 = .ok (.invokestatic 38, 3) := by decide +kernel
theorem dX7_darkAt_19 : decode cX7_darkAt 19 = .ok (.aload_n 0, 1) := by decide +kernel
theorem dX7_darkAt_20 : decode cX7_darkAt 20 = .ok (.getfield 23, 3) := by decide +kernel
theorem dX7_darkAt_23 : decode cX7_darkAt 23 = .ok (.iconst 4, 1) := by decide +kernel
theorem dX7_darkAt_24 : decode cX7_darkAt 24 = .ok (.iaload, 1) := by decide +kernel
theorem dX7_darkAt_25 : decode cX7_darkAt 25 = .ok (.if_icmp .ge 12, 3) := by decide +kernel
theorem dX7_darkAt_28 : decode cX7_darkAt 28 = .ok (.iload_n 2, 1) := by decide +kernel
theorem dX7_darkAt_29 : decode cX7_darkAt 29 = .ok (.ifCond .ne 5, 3) := by decide +kernel
theorem dX7_darkAt_32 : decode cX7_darkAt 32 = .ok (.iload_n 3, 1) := by decide +kernel
theorem dX7_darkAt_33 : decode cX7_darkAt 33 = .ok (.ireturn, 1) := by decide +kernel
theorem dX7_darkAt_34 : decode cX7_darkAt 34 = .ok (.iinc 2 (-1), 3) := by decide +kernel
theorem dX7_darkAt_37 : decode cX7_darkAt 37 = .ok (.iinc 3 1, 3) := by decide +kernel
theorem dX7_darkAt_40 : decode cX7_darkAt 40 = .ok (.goto (-36), 3) := by decide +kernel
theorem dX7_darkAt_43 : decode cX7_darkAt 43 = .ok (.iconst (-1), 1) := by decide +kernel
theorem dX7_darkAt_44 : decode cX7_darkAt 44 = .ok (.ireturn, 1) := by decide +kernel
set_option maxRecDepth 20000 in
theorem ggX7_leastUnshifted_X10_commonDivisor : GoodIn wsX7_leastUnshifted wsX10_commonDivisor := goodIn_r _ [6] (by decide +kernel) (by decide +kernel)
set_option maxRecDepth 20000 in
theorem gX7_leastUnshifted_X10_commonDivisor_n41 : GoodIn wsX7_leastUnshifted (wsX10_commonDivisor) := ggX7_leastUnshifted_X10_commonDivisor
theorem dX7_leastUnshifted_0 : decode cX7_leastUnshifted 0 = .ok (.aload_n 0, 1) := by decide +kernel
theorem dX7_leastUnshifted_1 : decode cX7_leastUnshifted 1 = .ok (.getfield 23, 3) := by decide +kernel
theorem dX7_leastUnshifted_4 : decode cX7_leastUnshifted 4 = .ok (.iconst 0, 1) := by decide +kernel
theorem dX7_leastUnshifted_5 : decode cX7_leastUnshifted 5 = .ok (.iaload, 1) := by decide +kernel
theorem dX7_leastUnshifted_6 : decode cX7_leastUnshifted 6 = .ok (.istore_n 1, 1) := by decide +kernel
theorem dX7_leastUnshifted_7 : decode cX7_leastUnshifted 7 = .ok (.iconst 0, 1) := by decide +kernel
theorem dX7_leastUnshifted_8 : decode cX7_leastUnshifted 8 = .ok (.istore_n 2, 1) := by decide +kernel
theorem dX7_leastUnshifted_9 : decode cX7_leastUnshifted 9 = .ok (.iload_n 2, 1) := by decide +kernel
theorem dX7_leastUnshifted_10 : decode cX7_leastUnshifted 10 = .ok (.aload_n 0, 1) := by decide +kernel
theorem dX7_leastUnshifted_11 : decode cX7_leastUnshifted 11 = .ok (.getfield 9, 3) := by decide +kernel
theorem dX7_leastUnshifted_14 : decode cX7_leastUnshifted 14 = .ok (.if_icmp .ge 20, 3) := by decide +kernel
theorem dX7_leastUnshifted_17 : decode cX7_leastUnshifted 17 = .ok (.iload_n 1, 1) := by decide +kernel
theorem dX7_leastUnshifted_18 : decode cX7_leastUnshifted 18 = .ok (.aload_n 0, 1) := by decide +kernel
theorem dX7_leastUnshifted_19 : decode cX7_leastUnshifted 19 = .ok (.getfield 15, 3) := by decide +kernel
theorem dX7_leastUnshifted_22 : decode cX7_leastUnshifted 22 = .ok (.iload_n 2, 1) := by decide +kernel
theorem dX7_leastUnshifted_23 : decode cX7_leastUnshifted 23 = .ok (.iaload, 1) := by decide +kernel
theorem dX7_leastUnshifted_24 : decode cX7_leastUnshifted 24 = .ok (.invokestatic 41, 3) := by decide +kernel
theorem dX7_leastUnshifted_27 : decode cX7_leastUnshifted 27 = .ok (.istore_n 1, 1) := by decide +kernel
theorem dX7_leastUnshifted_28 : decode cX7_leastUnshifted 28 = .ok (.iinc 2 1, 3) := by decide +kernel
theorem dX7_leastUnshifted_31 : decode cX7_leastUnshifted 31 = .ok (.goto (-22), 3) := by decide +kernel
theorem dX7_leastUnshifted_34 : decode cX7_leastUnshifted 34 = .ok (.iload_n 1, 1) := by decide +kernel
theorem dX7_leastUnshifted_35 : decode cX7_leastUnshifted 35 = .ok (.ifCond .le 14, 3) := by decide +kernel
theorem dX7_leastUnshifted_38 : decode cX7_leastUnshifted 38 = .ok (.aload_n 0, 1) := by decide +kernel
theorem dX7_leastUnshifted_39 : decode cX7_leastUnshifted 39 = .ok (.getfield 23, 3) := by decide +kernel
theorem dX7_leastUnshifted_42 : decode cX7_leastUnshifted 42 = .ok (.iconst 0, 1) := by decide +kernel
theorem dX7_leastUnshifted_43 : decode cX7_leastUnshifted 43 = .ok (.iaload, 1) := by decide +kernel
theorem dX7_leastUnshifted_44 : decode cX7_leastUnshifted 44 = .ok (.iload_n 1, 1) := by decide +kernel
theorem dX7_leastUnshifted_45 : decode cX7_leastUnshifted 45 = .ok (.idiv, 1) := by decide +kernel
theorem dX7_leastUnshifted_46 : decode cX7_leastUnshifted 46 = .ok (.goto 4, 3) := by decide +kernel
theorem dX7_leastUnshifted_49 : decode cX7_leastUnshifted 49 = .ok (.iconst 1, 1) := by decide +kernel
theorem dX7_leastUnshifted_50 : decode cX7_leastUnshifted 50 = .ok (.ireturn, 1) := by decide +kernel
set_option maxRecDepth 20000 in
theorem ggX7_countShaken_X7_countOpenShaken : GoodIn wsX7_countShaken wsX7_countOpenShaken := goodIn_r _ [7, 8, 9, 10, 11, 12, 13, 14, 15, 16, 17, 18, 19, 20, 21, 22, 23, 24, 25, 26, 27, 28, 29] (by decide +kernel) (by decide +kernel)
set_option maxRecDepth 20000 in
theorem gX7_countShaken_X7_countOpenShaken : GoodIn wsX7_countShaken (va_wsS RX7 45 yX7_countOpenShaken wsX7_countOpenShaken) := goodIn_app (goodIn_of _ (by decide +kernel)) ggX7_countShaken_X7_countOpenShaken
theorem dX7_countShaken_0 : decode cX7_countShaken 0 = .ok (.iconst 0, 1) := by decide +kernel
theorem dX7_countShaken_1 : decode cX7_countShaken 1 = .ok (.istore_n 3, 1) := by decide +kernel
theorem dX7_countShaken_2 : decode cX7_countShaken 2 = .ok (.iconst 1, 1) := by decide +kernel
theorem dX7_countShaken_3 : decode cX7_countShaken 3 = .ok (.istore 4, 2) := by decide +kernel
theorem dX7_countShaken_5 : decode cX7_countShaken 5 = .ok (.iload 4, 2) := by decide +kernel
theorem dX7_countShaken_7 : decode cX7_countShaken 7 = .ok (.aload_n 0, 1) := by decide +kernel
theorem dX7_countShaken_8 : decode cX7_countShaken 8 = .ok (.getfield 23, 3) := by decide +kernel
theorem dX7_countShaken_11 : decode cX7_countShaken 11 = .ok (.iconst 5, 1) := by decide +kernel
theorem dX7_countShaken_12 : decode cX7_countShaken 12 = .ok (.iaload, 1) := by decide +kernel
theorem dX7_countShaken_13 : decode cX7_countShaken 13 = .ok (.if_icmp .gt 83, 3) := by decide +kernel
theorem dX7_countShaken_16 : decode cX7_countShaken 16 = .ok (.iconst 0, 1) := by decide +kernel
theorem dX7_countShaken_17 : decode cX7_countShaken 17 = .ok (.istore 5, 2) := by decide +kernel
theorem dX7_countShaken_19 : decode cX7_countShaken 19 = .ok (.iconst 0, 1) := by decide +kernel
theorem dX7_countShaken_20 : decode cX7_countShaken 20 = .ok (.istore 6, 2) := by decide +kernel
theorem dX7_countShaken_22 : decode cX7_countShaken 22 = .ok (.iload 6, 2) := by decide +kernel
theorem dX7_countShaken_24 : decode cX7_countShaken 24 = .ok (.aload_n 0, 1) := by decide +kernel
theorem dX7_countShaken_25 : decode cX7_countShaken 25 = .ok (.getfield 9, 3) := by decide +kernel
theorem dX7_countShaken_28 : decode cX7_countShaken 28 = .ok (.if_icmp .ge 48, 3) := by decide +kernel
theorem dX7_countShaken_31 : decode cX7_countShaken 31 = .ok (.aload_n 0, 1) := by decide +kernel
theorem dX7_countShaken_32 : decode cX7_countShaken 32 = .ok (.iload 4, 2) := by decide +kernel
theorem dX7_countShaken_34 : decode cX7_countShaken 34 = .ok (.aload_n 0, 1) := by decide +kernel
theorem dX7_countShaken_35 : decode cX7_countShaken 35 = .ok (.getfield 15, 3) := by decide +kernel
theorem dX7_countShaken_38 : decode cX7_countShaken 38 = .ok (.iload 6, 2) := by decide +kernel
theorem dX7_countShaken_40 : decode cX7_countShaken 40 = .ok (.iaload, 1) := by decide +kernel
theorem dX7_countShaken_41 : decode cX7_countShaken 41 = .ok (.iload_n 1, 1) := by decide +kernel
theorem dX7_countShaken_42 : decode cX7_countShaken 42 = .ok (.invokestatic 45, 3) := by decide +kernel
theorem dX7_countShaken_45 : decode cX7_countShaken 45 = .ok (.istore 7, 2) := by decide +kernel
theorem dX7_countShaken_47 : decode cX7_countShaken 47 = .ok (.iload_n 2, 1) := by decide +kernel
theorem dX7_countShaken_48 : decode cX7_countShaken 48 = .ok (.ifCond .eq 11, 3) := by decide +kernel
theorem dX7_countShaken_51 : decode cX7_countShaken 51 = .ok (.iload 7, 2) := by decide +kernel
theorem dX7_countShaken_53 : decode cX7_countShaken 53 = .ok (.ifCond .le 17, 3) := by decide +kernel
theorem dX7_countShaken_56 : decode cX7_countShaken 56 = .ok (.goto 11, 3) := by decide +kernel
theorem dX7_countShaken_59 : decode cX7_countShaken 59 = .ok (.iload 7, 2) := by decide +kernel
theorem dX7_countShaken_61 : decode cX7_countShaken 61 = .ok (.iconst 2, 1) := by decide +kernel
theorem dX7_countShaken_62 : decode cX7_countShaken 62 = .ok (.iload_n 1, 1) := by decide +kernel
theorem dX7_countShaken_63 : decode cX7_countShaken 63 = .ok (.imul, 1) := by decide +kernel
theorem dX7_countShaken_64 : decode cX7_countShaken 64 = .ok (.if_icmp .le 6, 3) := by decide +kernel
theorem dX7_countShaken_67 : decode cX7_countShaken 67 = .ok (.iinc 5 1, 3) := by decide +kernel
theorem dX7_countShaken_70 : decode cX7_countShaken 70 = .ok (.iinc 6 1, 3) := by decide +kernel
theorem dX7_countShaken_73 : decode cX7_countShaken 73 = .ok (.goto (-51), 3) := by decide +kernel
theorem dX7_countShaken_76 : decode cX7_countShaken 76 = .ok (.iload 5, 2) := by decide +kernel
theorem dX7_countShaken_78 : decode cX7_countShaken 78 = .ok (.aload_n 0, 1) := by decide +kernel
theorem dX7_countShaken_79 : decode cX7_countShaken 79 = .ok (.getfield 23, 3) := by decide +kernel
theorem dX7_countShaken_82 : decode cX7_countShaken 82 = .ok (.iconst 4, 1) := by decide +kernel
theorem dX7_countShaken_83 : decode cX7_countShaken 83 = .ok (.iaload, 1) := by decide +kernel
theorem dX7_countShaken_84 : decode cX7_countShaken 84 = .ok (.if_icmp .lt 6, 3) := by decide +kernel
theorem dX7_countShaken_87 : decode cX7_countShaken 87 = .ok (.iinc 3 1, 3) := by decide +kernel
theorem dX7_countShaken_90 : decode cX7_countShaken 90 = .ok (.iinc 4 1, 3) := by decide +kernel
theorem dX7_countShaken_93 : decode cX7_countShaken 93 = .ok (.goto (-88), 3) := by decide +kernel
theorem dX7_countShaken_96 : decode cX7_countShaken 96 = .ok (.iload_n 3, 1) := by decide +kernel
theorem dX7_countShaken_97 : decode cX7_countShaken 97 = .ok (.ireturn, 1) := by decide +kernel
set_option maxRecDepth 20000 in
theorem ggX7_countOpenShaken_X5_hides : GoodIn wsX7_countOpenShaken wsX5_hides := goodIn_r _ [5, 6, 7, 8, 9, 10, 11, 12, 13, 14, 15, 16, 17, 18, 19, 20, 21, 22] (by decide +kernel) (by decide +kernel)
set_option maxRecDepth 20000 in
theorem gX7_countOpenShaken_X5_hides : GoodIn wsX7_countOpenShaken (wsV RX7 19 RX5 yX5_hides wsX5_hides) := goodIn_app (goodIn_of _ (by decide +kernel)) ggX7_countOpenShaken_X5_hides
theorem dX7_countOpenShaken_0 : decode cX7_countOpenShaken 0 = .ok (.iconst 0, 1) := by decide +kernel
theorem dX7_countOpenShaken_1 : decode cX7_countOpenShaken 1 = .ok (.istore 4, 2) := by decide +kernel
theorem dX7_countOpenShaken_3 : decode cX7_countOpenShaken 3 = .ok (.iload_n 3, 1) := by decide +kernel
theorem dX7_countOpenShaken_4 : decode cX7_countOpenShaken 4 = .ok (.ineg, 1) := by decide +kernel
theorem dX7_countOpenShaken_5 : decode cX7_countOpenShaken 5 = .ok (.istore 5, 2) := by decide +kernel
theorem dX7_countOpenShaken_7 : decode cX7_countOpenShaken 7 = .ok (.iload 5, 2) := by decide +kernel
theorem dX7_countOpenShaken_9 : decode cX7_countOpenShaken 9 = .ok (.iload_n 3, 1) := by decide +kernel
theorem dX7_countOpenShaken_10 : decode cX7_countOpenShaken 10 = .ok (.if_icmp .gt 24, 3) := by decide +kernel
theorem dX7_countOpenShaken_13 : decode cX7_countOpenShaken 13 = .ok (.aload_n 0, 1) := by decide +kernel
theorem dX7_countOpenShaken_14 : decode cX7_countOpenShaken 14 = .ok (.iload_n 1, 1) := by decide +kernel
theorem dX7_countOpenShaken_15 : decode cX7_countOpenShaken 15 = .ok (.iload_n 2, 1) := by decide +kernel
theorem dX7_countOpenShaken_16 : decode cX7_countOpenShaken 16 = .ok (.iload 5, 2) := by decide +kernel
theorem dX7_countOpenShaken_18 : decode cX7_countOpenShaken 18 = .ok (.iadd, 1) := by decide +kernel
theorem dX7_countOpenShaken_19 : decode cX7_countOpenShaken 19 = .ok (.invokevirtual 19, 3) := by decide +kernel
theorem dX7_countOpenShaken_22 : decode cX7_countOpenShaken 22 = .ok (.ifCond .ne 6, 3) := by decide +kernel
theorem dX7_countOpenShaken_25 : decode cX7_countOpenShaken 25 = .ok (.iinc 4 1, 3) := by decide +kernel
theorem dX7_countOpenShaken_28 : decode cX7_countOpenShaken 28 = .ok (.iinc 5 1, 3) := by decide +kernel
theorem dX7_countOpenShaken_31 : decode cX7_countOpenShaken 31 = .ok (.goto (-24), 3) := by decide +kernel
theorem dX7_countOpenShaken_34 : decode cX7_countOpenShaken 34 = .ok (.iload 4, 2) := by decide +kernel
theorem dX7_countOpenShaken_36 : decode cX7_countOpenShaken 36 = .ok (.ireturn, 1) := by decide +kernel
theorem dX8_init_0 : decode cX8_init 0 = .ok (.aload_n 0, 1) := by decide +kernel
theorem dX8_init_1 : decode cX8_init 1 = .ok (.invokespecial 3, 3) := by decide +kernel
theorem dX8_init_4 : decode cX8_init 4 = .ok (.aload_n 0, 1) := by decide +kernel
theorem dX8_init_5 : decode cX8_init 5 = .ok (.sipush 400, 3) := by decide +kernel
theorem dX8_init_8 : decode cX8_init 8 = .ok (.newarray .int, 2) := by decide +kernel
theorem dX8_init_10 : decode cX8_init 10 = .ok (.putfield 9, 3) := by decide +kernel
theorem dX8_init_13 : decode cX8_init 13 = .ok (.aload_n 0, 1) := by decide +kernel
theorem dX8_init_14 : decode cX8_init 14 = .ok (.iconst (-1), 1) := by decide +kernel
theorem dX8_init_15 : decode cX8_init 15 = .ok (.putfield 15, 3) := by decide +kernel
theorem dX8_init_18 : decode cX8_init 18 = .ok (.return_, 1) := by decide +kernel
theorem dX8_append_0 : decode cX8_append 0 = .ok (.aload_n 0, 1) := by decide +kernel
theorem dX8_append_1 : decode cX8_append 1 = .ok (.getfield 19, 3) := by decide +kernel
theorem dX8_append_4 : decode cX8_append 4 = .ok (.sipush 400, 3) := by decide +kernel
theorem dX8_append_7 : decode cX8_append 7 = .ok (.if_icmp .ge 23, 3) := by decide +kernel
theorem dX8_append_10 : decode cX8_append 10 = .ok (.aload_n 0, 1) := by decide +kernel
theorem dX8_append_11 : decode cX8_append 11 = .ok (.getfield 9, 3) := by decide +kernel
theorem dX8_append_14 : decode cX8_append 14 = .ok (.aload_n 0, 1) := by decide +kernel
theorem dX8_append_15 : decode cX8_append 15 = .ok (.getfield 19, 3) := by decide +kernel
theorem dX8_append_18 : decode cX8_append 18 = .ok (.iload_n 1, 1) := by decide +kernel
theorem dX8_append_19 : decode cX8_append 19 = .ok (.iastore, 1) := by decide +kernel
theorem dX8_append_20 : decode cX8_append 20 = .ok (.aload_n 0, 1) := by decide +kernel
theorem dX8_append_21 : decode cX8_append 21 = .ok (.dup, 1) := by decide +kernel
theorem dX8_append_22 : decode cX8_append 22 = .ok (.getfield 19, 3) := by decide +kernel
theorem dX8_append_25 : decode cX8_append 25 = .ok (.iconst 1, 1) := by decide +kernel
theorem dX8_append_26 : decode cX8_append 26 = .ok (.iadd, 1) := by decide +kernel
theorem dX8_append_27 : decode cX8_append 27 = .ok (.putfield 19, 3) := by decide +kernel
theorem dX8_append_30 : decode cX8_append 30 = .ok (.return_, 1) := by decide +kernel
theorem dX8_copyFrom_0 : decode cX8_copyFrom 0 = .ok (.aload_n 1, 1) := by decide +kernel
theorem dX8_copyFrom_1 : decode cX8_copyFrom 1 = .ok (.getfield 9, 3) := by decide +kernel
theorem dX8_copyFrom_4 : decode cX8_copyFrom 4 = .ok (.iconst 0, 1) := by decide +kernel
theorem dX8_copyFrom_5 : decode cX8_copyFrom 5 = .ok (.aload_n 0, 1) := by decide +kernel
theorem dX8_copyFrom_6 : decode cX8_copyFrom 6 = .ok (.getfield 9, 3) := by decide +kernel
theorem dX8_copyFrom_9 : decode cX8_copyFrom 9 = .ok (.iconst 0, 1) := by decide +kernel
theorem dX8_copyFrom_10 : decode cX8_copyFrom 10 = .ok (.sipush 400, 3) := by decide +kernel
theorem dX8_copyFrom_13 : decode cX8_copyFrom 13 = .ok (.invokestatic 22, 3) := by decide +kernel
theorem dX8_copyFrom_16 : decode cX8_copyFrom 16 = .ok (.aload_n 0, 1) := by decide +kernel
theorem dX8_copyFrom_17 : decode cX8_copyFrom 17 = .ok (.aload_n 1, 1) := by decide +kernel
theorem dX8_copyFrom_18 : decode cX8_copyFrom 18 = .ok (.getfield 19, 3) := by decide +kernel
theorem dX8_copyFrom_21 : decode cX8_copyFrom 21 = .ok (.putfield 19, 3) := by decide +kernel
theorem dX8_copyFrom_24 : decode cX8_copyFrom 24 = .ok (.aload_n 0, 1) := by decide +kernel
theorem dX8_copyFrom_25 : decode cX8_copyFrom 25 = .ok (.aload_n 1, 1) := by decide +kernel
theorem dX8_copyFrom_26 : decode cX8_copyFrom 26 = .ok (.getfield 28, 3) := by decide +kernel
theorem dX8_copyFrom_29 : decode cX8_copyFrom 29 = .ok (.putfield 28, 3) := by decide +kernel
theorem dX8_copyFrom_32 : decode cX8_copyFrom 32 = .ok (.aload_n 0, 1) := by decide +kernel
theorem dX8_copyFrom_33 : decode cX8_copyFrom 33 = .ok (.aload_n 1, 1) := by decide +kernel
theorem dX8_copyFrom_34 : decode cX8_copyFrom 34 = .ok (.getfield 15, 3) := by decide +kernel
theorem dX8_copyFrom_37 : decode cX8_copyFrom 37 = .ok (.putfield 15, 3) := by decide +kernel
theorem dX8_copyFrom_40 : decode cX8_copyFrom 40 = .ok (.return_, 1) := by decide +kernel
theorem dX9_init_0 : decode cX9_init 0 = .ok (.aload_n 0, 1) := by decide +kernel
theorem dX9_init_1 : decode cX9_init 1 = .ok (.invokespecial 3, 3) := by decide +kernel
theorem dX9_init_4 : decode cX9_init 4 = .ok (.aload_n 0, 1) := by decide +kernel
theorem dX9_init_5 : decode cX9_init 5 = .ok (.bipush 48, 2) := by decide +kernel
theorem dX9_init_7 : decode cX9_init 7 = .ok (.newarray .int, 2) := by decide +kernel
theorem dX9_init_9 : decode cX9_init 9 = .ok (.putfield 9, 3) := by decide +kernel
theorem dX9_init_12 : decode cX9_init 12 = .ok (.aload_n 0, 1) := by decide +kernel
theorem dX9_init_13 : decode cX9_init 13 = .ok (.iconst 4, 1) := by decide +kernel
theorem dX9_init_14 : decode cX9_init 14 = .ok (.newarray .int, 2) := by decide +kernel
theorem dX9_init_16 : decode cX9_init 16 = .ok (.putfield 15, 3) := by decide +kernel
theorem dX9_init_19 : decode cX9_init 19 = .ok (.return_, 1) := by decide +kernel
set_option maxRecDepth 20000 in
theorem ggX9_countAll_X9_seek : GoodIn wsX9_countAll wsX9_seek := goodIn_r _ [7, 2, 8, 9, 10, 11, 12, 13, 6, 14, 15, 16, 17, 18, 19, 20, 21, 22, 23, 24, 25, 26, 27, 28, 29, 30, 31, 32, 33, 34, 35, 36, 37, 38, 39, 40, 41, 42, 43, 44, 45, 46, 47, 48, 49, 50, 51, 52, 53, 54] (by decide +kernel) (by decide +kernel)
set_option maxRecDepth 20000 in
theorem gX9_countAll_X9_seek : GoodIn wsX9_countAll (wsV RX9 21 RX9 yX9_seek wsX9_seek) := goodIn_app (goodIn_of _ (by decide +kernel)) ggX9_countAll_X9_seek
theorem dX9_countAll_0 : decode cX9_countAll 0 = .ok (.aload_n 0, 1) := by decide +kernel
theorem dX9_countAll_1 : decode cX9_countAll 1 = .ok (.aload_n 1, 1) := by decide +kernel
theorem dX9_countAll_2 : decode cX9_countAll 2 = .ok (.ldc 20, 2) := by decide +kernel
theorem dX9_countAll_4 : decode cX9_countAll 4 = .ok (.invokevirtual 21, 3) := by decide +kernel
theorem dX9_countAll_7 : decode cX9_countAll 7 = .ok (.ifCond .eq 7, 3) := by decide +kernel
theorem dX9_countAll_10 : decode cX9_countAll 10 = .ok (.iconst 0, 1) := by decide +kernel
theorem dX9_countAll_11 : decode cX9_countAll 11 = .ok (.goto 7, 3) := by decide +kernel
theorem dX9_countAll_14 : decode cX9_countAll 14 = .ok (.aload_n 0, 1) := by decide +kernel
theorem dX9_countAll_15 : decode cX9_countAll 15 = .ok (.getfield 25, 3) := by decide +kernel
theorem dX9_countAll_18 : decode cX9_countAll 18 = .ok (.ireturn, 1) := by decide +kernel
set_option maxRecDepth 20000 in
theorem ggX9_seek_X9_alignAll : GoodIn wsX9_seek wsX9_alignAll := goodIn_r _ [9, 2, 3, 10, 11, 12, 13, 8, 14, 4, 15, 16, 17, 18, 19, 37, 38, 39, 40, 41, 42, 43, 44, 45, 46, 47, 48, 49, 34, 35, 36] (by decide +kernel) (by decide +kernel)
set_option maxRecDepth 20000 in
theorem gX9_seek_X9_alignAll : GoodIn wsX9_seek (wsV RX9 37 RX9 yX9_alignAll wsX9_alignAll) := goodIn_app (goodIn_of _ (by decide +kernel)) ggX9_seek_X9_alignAll
set_option maxRecDepth 20000 in
theorem ggX9_seek_X9_seekMiddle : GoodIn wsX9_seek wsX9_seekMiddle := goodIn_r _ [23, 2, 3, 10, 1, 4, 24, 25, 26, 27, 28, 29, 30, 31, 32, 8, 33, 37, 38, 39, 40, 41, 42, 43, 44, 45, 46, 47, 48, 49, 34, 35, 36] (by decide +kernel) (by decide +kernel)
set_option maxRecDepth 20000 in
theorem gX9_seek_X9_seekMiddle : GoodIn wsX9_seek (wsV RX9 41 RX9 yX9_seekMiddle wsX9_seekMiddle) := goodIn_app (goodIn_of _ (by decide +kernel)) ggX9_seek_X9_seekMiddle
theorem dX9_seek_0 : decode cX9_seek 0 = .ok (.aload_n 0, 1) := by decide +kernel
theorem dX9_seek_1 : decode cX9_seek 1 = .ok (.iconst 0, 1) := by decide +kernel
theorem dX9_seek_2 : decode cX9_seek 2 = .ok (.putfield 25, 3) := by decide +kernel
theorem dX9_seek_5 : decode cX9_seek 5 = .ok (.aload_n 1, 1) := by decide +kernel
theorem dX9_seek_6 : decode cX9_seek 6 = .ok (.getfield 29, 3) := by decide +kernel
theorem dX9_seek_9 : decode cX9_seek 9 = .ok (.iconst 2, 1) := by decide +kernel
theorem dX9_seek_10 : decode cX9_seek 10 = .ok (.if_icmp .ge 5, 3) := by decide +kernel
theorem dX9_seek_13 : decode cX9_seek 13 = .ok (.iconst 0, 1) := by decide +kernel
theorem dX9_seek_14 : decode cX9_seek 14 = .ok (.ireturn, 1) := by decide +kernel
theorem dX9_seek_15 : decode cX9_seek 15 = .ok (.iconst 0, 1) := by decide +kernel
theorem dX9_seek_16 : decode cX9_seek 16 = .ok (.istore_n 3, 1) := by decide +kernel
theorem dX9_seek_17 : decode cX9_seek 17 = .ok (.iload_n 3, 1) := by decide +kernel
theorem dX9_seek_18 : decode cX9_seek 18 = .ok (.aload_n 1, 1) := by decide +kernel
theorem dX9_seek_19 : decode cX9_seek 19 = .ok (.getfield 34, 3) := by decide +kernel
theorem dX9_seek_22 : decode cX9_seek 22 = .ok (.iconst 0, 1) := by decide +kernel
theorem dX9_seek_23 : decode cX9_seek 23 = .ok (.iaload, 1) := by decide +kernel
theorem dX9_seek_24 : decode cX9_seek 24 = .ok (.if_icmp .ge 32, 3) := by decide +kernel
theorem dX9_seek_27 : decode cX9_seek 27 = .ok (.aload_n 0, 1) := by decide +kernel
theorem dX9_seek_28 : decode cX9_seek 28 = .ok (.getfield 15, 3) := by decide +kernel
theorem dX9_seek_31 : decode cX9_seek 31 = .ok (.iconst 0, 1) := by decide +kernel
theorem dX9_seek_32 : decode cX9_seek 32 = .ok (.iload_n 3, 1) := by decide +kernel
theorem dX9_seek_33 : decode cX9_seek 33 = .ok (.iastore, 1) := by decide +kernel
theorem dX9_seek_34 : decode cX9_seek 34 = .ok (.aload_n 0, 1) := by decide +kernel
theorem dX9_seek_35 : decode cX9_seek 35 = .ok (.aload_n 1, 1) := by decide +kernel
theorem dX9_seek_36 : decode cX9_seek 36 = .ok (.invokevirtual 37, 3) := by decide +kernel
theorem dX9_seek_39 : decode cX9_seek 39 = .ok (.aload_n 0, 1) := by decide +kernel
theorem dX9_seek_40 : decode cX9_seek 40 = .ok (.aload_n 1, 1) := by decide +kernel
theorem dX9_seek_41 : decode cX9_seek 41 = .ok (.iload_n 2, 1) := by decide +kernel
theorem dX9_seek_42 : decode cX9_seek 42 = .ok (.invokevirtual 41, 3) := by decide +kernel
theorem dX9_seek_45 : decode cX9_seek 45 = .ok (.ifCond .eq 5, 3) := by decide +kernel
theorem dX9_seek_48 : decode cX9_seek 48 = .ok (.iconst 1, 1) := by decide +kernel
theorem dX9_seek_49 : decode cX9_seek 49 = .ok (.ireturn, 1) := by decide +kernel
theorem dX9_seek_50 : decode cX9_seek 50 = .ok (.iinc 3 1, 3) := by decide +kernel
theorem dX9_seek_53 : decode cX9_seek 53 = .ok (.goto (-36), 3) := by decide +kernel
theorem dX9_seek_56 : decode cX9_seek 56 = .ok (.iconst 0, 1) := by decide +kernel
theorem dX9_seek_57 : decode cX9_seek 57 = .ok (.ireturn, 1) := by decide +kernel
set_option maxRecDepth 20000 in
theorem ggX9_seekMiddle_J6_bitCount_0f7a4 : GoodIn wsX9_seekMiddle wsJ6_bitCount_0f7a4 := goodIn_r _ [9, 10, 11, 12] (by decide +kernel) (by decide +kernel)
set_option maxRecDepth 20000 in
theorem gX9_seekMiddle_J6_bitCount_0f7a4 : GoodIn wsX9_seekMiddle (va_wsS RX9 44 yJ6_bitCount_0f7a4 wsJ6_bitCount_0f7a4) := goodIn_app (goodIn_of _ (by decide +kernel)) ggX9_seekMiddle_J6_bitCount_0f7a4
set_option maxRecDepth 20000 in
theorem ggX9_seekMiddle_X9_placeOfBit : GoodIn wsX9_seekMiddle wsX9_placeOfBit := goodIn_r _ [16] (by decide +kernel) (by decide +kernel)
set_option maxRecDepth 20000 in
theorem gX9_seekMiddle_X9_placeOfBit : GoodIn wsX9_seekMiddle (va_wsS RX9 48 yX9_placeOfBit wsX9_placeOfBit) := goodIn_app (goodIn_of _ (by decide +kernel)) ggX9_seekMiddle_X9_placeOfBit
theorem dX9_seekMiddle_0 : decode cX9_seekMiddle 0 = .ok (.aload_n 1, 1) := by decide +kernel
theorem dX9_seekMiddle_1 : decode cX9_seekMiddle 1 = .ok (.getfield 29, 3) := by decide +kernel
theorem dX9_seekMiddle_4 : decode cX9_seekMiddle 4 = .ok (.iconst 1, 1) := by decide +kernel
theorem dX9_seekMiddle_5 : decode cX9_seekMiddle 5 = .ok (.isub, 1) := by decide +kernel
theorem dX9_seekMiddle_6 : decode cX9_seekMiddle 6 = .ok (.istore_n 3, 1) := by decide +kernel
theorem dX9_seekMiddle_7 : decode cX9_seekMiddle 7 = .ok (.iconst 1, 1) := by decide +kernel
theorem dX9_seekMiddle_8 : decode cX9_seekMiddle 8 = .ok (.aload_n 1, 1) := by decide +kernel
theorem dX9_seekMiddle_9 : decode cX9_seekMiddle 9 = .ok (.getfield 34, 3) := by decide +kernel
theorem dX9_seekMiddle_12 : decode cX9_seekMiddle 12 = .ok (.iload_n 3, 1) := by decide +kernel
theorem dX9_seekMiddle_13 : decode cX9_seekMiddle 13 = .ok (.iaload, 1) := by decide +kernel
theorem dX9_seekMiddle_14 : decode cX9_seekMiddle 14 = .ok (.ishl, 1) := by decide +kernel
theorem dX9_seekMiddle_15 : decode cX9_seekMiddle 15 = .ok (.iconst 1, 1) := by decide +kernel
theorem dX9_seekMiddle_16 : decode cX9_seekMiddle 16 = .ok (.isub, 1) := by decide +kernel
theorem dX9_seekMiddle_17 : decode cX9_seekMiddle 17 = .ok (.istore 4, 2) := by decide +kernel
theorem dX9_seekMiddle_19 : decode cX9_seekMiddle 19 = .ok (.iload_n 3, 1) := by decide +kernel
theorem dX9_seekMiddle_20 : decode cX9_seekMiddle 20 = .ok (.iconst 1, 1) := by decide +kernel
theorem dX9_seekMiddle_21 : decode cX9_seekMiddle 21 = .ok (.if_icmp .le 12, 3) := by decide +kernel
theorem dX9_seekMiddle_24 : decode cX9_seekMiddle 24 = .ok (.aload_n 1, 1) := by decide +kernel
theorem dX9_seekMiddle_25 : decode cX9_seekMiddle 25 = .ok (.getfield 34, 3) := by decide +kernel
theorem dX9_seekMiddle_28 : decode cX9_seekMiddle 28 = .ok (.iconst 1, 1) := by decide +kernel
theorem dX9_seekMiddle_29 : decode cX9_seekMiddle 29 = .ok (.iaload, 1) := by decide +kernel
theorem dX9_seekMiddle_30 : decode cX9_seekMiddle 30 = .ok (.goto 4, 3) := by decide +kernel
theorem dX9_seekMiddle_33 : decode cX9_seekMiddle 33 = .ok (.iconst 1, 1) := by decide +kernel
theorem dX9_seekMiddle_34 : decode cX9_seekMiddle 34 = .ok (.istore 5, 2) := by decide +kernel
theorem dX9_seekMiddle_36 : decode cX9_seekMiddle 36 = .ok (.iload_n 3, 1) := by decide +kernel
theorem dX9_seekMiddle_37 : decode cX9_seekMiddle 37 = .ok (.iconst 2, 1) := by decide +kernel
theorem dX9_seekMiddle_38 : decode cX9_seekMiddle 38 = .ok (.if_icmp .le 12, 3) := by decide +kernel
theorem dX9_seekMiddle_41 : decode cX9_seekMiddle 41 = .ok (.aload_n 1, 1) := by decide +kernel
theorem dX9_seekMiddle_42 : decode cX9_seekMiddle 42 = .ok (.getfield 34, 3) := by decide +kernel
theorem dX9_seekMiddle_45 : decode cX9_seekMiddle 45 = .ok (.iconst 2, 1) := by decide +kernel
theorem dX9_seekMiddle_46 : decode cX9_seekMiddle 46 = .ok (.iaload, 1) := by decide +kernel
theorem dX9_seekMiddle_47 : decode cX9_seekMiddle 47 = .ok (.goto 4, 3) := by decide +kernel
theorem dX9_seekMiddle_50 : decode cX9_seekMiddle 50 = .ok (.iconst 1, 1) := by decide +kernel
theorem dX9_seekMiddle_51 : decode cX9_seekMiddle 51 = .ok (.istore 6, 2) := by decide +kernel
theorem dX9_seekMiddle_53 : decode cX9_seekMiddle 53 = .ok (.iconst 0, 1) := by decide +kernel
theorem dX9_seekMiddle_54 : decode cX9_seekMiddle 54 = .ok (.istore 7, 2) := by decide +kernel
theorem dX9_seekMiddle_56 : decode cX9_seekMiddle 56 = .ok (.iload 7, 2) := by decide +kernel
theorem dX9_seekMiddle_58 : decode cX9_seekMiddle 58 = .ok (.iload 5, 2) := by decide +kernel
theorem dX9_seekMiddle_60 : decode cX9_seekMiddle 60 = .ok (.if_icmp .ge 143, 3) := by decide +kernel
theorem dX9_seekMiddle_63 : decode cX9_seekMiddle 63 = .ok (.iconst 0, 1) := by decide +kernel
theorem dX9_seekMiddle_64 : decode cX9_seekMiddle 64 = .ok (.istore 8, 2) := by decide +kernel
theorem dX9_seekMiddle_66 : decode cX9_seekMiddle 66 = .ok (.iload 8, 2) := by decide +kernel
theorem dX9_seekMiddle_68 : decode cX9_seekMiddle 68 = .ok (.iload 6, 2) := by decide +kernel
theorem dX9_seekMiddle_70 : decode cX9_seekMiddle 70 = .ok (.if_icmp .ge 127, 3) := by decide +kernel
theorem dX9_seekMiddle_73 : decode cX9_seekMiddle 73 = .ok (.iload 4, 2) := by decide +kernel
theorem dX9_seekMiddle_75 : decode cX9_seekMiddle 75 = .ok (.istore 9, 2) := by decide +kernel
theorem dX9_seekMiddle_77 : decode cX9_seekMiddle 77 = .ok (.iload 9, 2) := by decide +kernel
theorem dX9_seekMiddle_79 : decode cX9_seekMiddle 79 = .ok (.iload_n 3, 1) := by decide +kernel
theorem dX9_seekMiddle_80 : decode cX9_seekMiddle 80 = .ok (.iconst 1, 1) := by decide +kernel
theorem dX9_seekMiddle_81 : decode cX9_seekMiddle 81 = .ok (.if_icmp .le 16, 3) := by decide +kernel
theorem dX9_seekMiddle_84 : decode cX9_seekMiddle 84 = .ok (.aload_n 0, 1) := by decide +kernel
theorem dX9_seekMiddle_85 : decode cX9_seekMiddle 85 = .ok (.getfield 9, 3) := by decide +kernel
theorem dX9_seekMiddle_88 : decode cX9_seekMiddle 88 = .ok (.bipush 12, 2) := by decide +kernel
theorem dX9_seekMiddle_90 : decode cX9_seekMiddle 90 = .ok (.iload 7, 2) := by decide +kernel
theorem dX9_seekMiddle_92 : decode cX9_seekMiddle 92 = .ok (.iadd, 1) := by decide +kernel
theorem dX9_seekMiddle_93 : decode cX9_seekMiddle 93 = .ok (.iaload, 1) := by decide +kernel
theorem dX9_seekMiddle_94 : decode cX9_seekMiddle 94 = .ok (.goto 5, 3) := by decide +kernel
theorem dX9_seekMiddle_97 : decode cX9_seekMiddle 97 = .ok (.iload 4, 2) := by decide +kernel
theorem dX9_seekMiddle_99 : decode cX9_seekMiddle 99 = .ok (.iand, 1) := by decide +kernel
theorem dX9_seekMiddle_100 : decode cX9_seekMiddle 100 = .ok (.istore 9, 2) := by decide +kernel
theorem dX9_seekMiddle_102 : decode cX9_seekMiddle 102 = .ok (.iload 9, 2) := by decide +kernel
theorem dX9_seekMiddle_104 : decode cX9_seekMiddle 104 = .ok (.iload_n 3, 1) := by decide +kernel
theorem dX9_seekMiddle_105 : decode cX9_seekMiddle 105 = .ok (.iconst 2, 1) := by decide +kernel
theorem dX9_seekMiddle_106 : decode cX9_seekMiddle 106 = .ok (.if_icmp .le 16, 3) := by decide +kernel
theorem dX9_seekMiddle_109 : decode cX9_seekMiddle 109 = .ok (.aload_n 0, 1) := by decide +kernel
theorem dX9_seekMiddle_110 : decode cX9_seekMiddle 110 = .ok (.getfield 9, 3) := by decide +kernel
theorem dX9_seekMiddle_113 : decode cX9_seekMiddle 113 = .ok (.bipush 24, 2) := by decide +kernel
theorem dX9_seekMiddle_115 : decode cX9_seekMiddle 115 = .ok (.iload 8, 2) := by decide +kernel
theorem dX9_seekMiddle_117 : decode cX9_seekMiddle 117 = .ok (.iadd, 1) := by decide +kernel
theorem dX9_seekMiddle_118 : decode cX9_seekMiddle 118 = .ok (.iaload, 1) := by decide +kernel
theorem dX9_seekMiddle_119 : decode cX9_seekMiddle 119 = .ok (.goto 5, 3) := by decide +kernel
theorem dX9_seekMiddle_122 : decode cX9_seekMiddle 122 = .ok (.iload 4, 2) := by decide +kernel
theorem dX9_seekMiddle_124 : decode cX9_seekMiddle 124 = .ok (.iand, 1) := by decide +kernel
theorem dX9_seekMiddle_125 : decode cX9_seekMiddle 125 = .ok (.istore 9, 2) := by decide +kernel
theorem dX9_seekMiddle_127 : decode cX9_seekMiddle 127 = .ok (.iload 9, 2) := by decide +kernel
theorem dX9_seekMiddle_129 : decode cX9_seekMiddle 129 = .ok (.invokestatic 44, 3) := by decide +kernel
theorem dX9_seekMiddle_132 : decode cX9_seekMiddle 132 = .ok (.istore 10, 2) := by decide +kernel
theorem dX9_seekMiddle_134 : decode cX9_seekMiddle 134 = .ok (.iload_n 2, 1) := by decide +kernel
theorem dX9_seekMiddle_135 : decode cX9_seekMiddle 135 = .ok (.aload_n 0, 1) := by decide +kernel
theorem dX9_seekMiddle_136 : decode cX9_seekMiddle 136 = .ok (.getfield 25, 3) := by decide +kernel
theorem dX9_seekMiddle_139 : decode cX9_seekMiddle 139 = .ok (.isub, 1) := by decide +kernel
theorem dX9_seekMiddle_140 : decode cX9_seekMiddle 140 = .ok (.iload 10, 2) := by decide +kernel
theorem dX9_seekMiddle_142 : decode cX9_seekMiddle 142 = .ok (.if_icmp .ge 38, 3) := by decide +kernel
theorem dX9_seekMiddle_145 : decode cX9_seekMiddle 145 = .ok (.aload_n 0, 1) := by decide +kernel
theorem dX9_seekMiddle_146 : decode cX9_seekMiddle 146 = .ok (.getfield 15, 3) := by decide +kernel
theorem dX9_seekMiddle_149 : decode cX9_seekMiddle 149 = .ok (.iconst 1, 1) := by decide +kernel
theorem dX9_seekMiddle_150 : decode cX9_seekMiddle 150 = .ok (.iload 7, 2) := by decide +kernel
theorem dX9_seekMiddle_152 : decode cX9_seekMiddle 152 = .ok (.iastore, 1) := by decide +kernel
theorem dX9_seekMiddle_153 : decode cX9_seekMiddle 153 = .ok (.aload_n 0, 1) := by decide +kernel
theorem dX9_seekMiddle_154 : decode cX9_seekMiddle 154 = .ok (.getfield 15, 3) := by decide +kernel
theorem dX9_seekMiddle_157 : decode cX9_seekMiddle 157 = .ok (.iconst 2, 1) := by decide +kernel
theorem dX9_seekMiddle_158 : decode cX9_seekMiddle 158 = .ok (.iload 8, 2) := by decide +kernel
theorem dX9_seekMiddle_160 : decode cX9_seekMiddle 160 = .ok (.iastore, 1) := by decide +kernel
theorem dX9_seekMiddle_161 : decode cX9_seekMiddle 161 = .ok (.aload_n 0, 1) := by decide +kernel
theorem dX9_seekMiddle_162 : decode cX9_seekMiddle 162 = .ok (.getfield 15, 3) := by decide +kernel
theorem dX9_seekMiddle_165 : decode cX9_seekMiddle 165 = .ok (.iload_n 3, 1) := by decide +kernel
theorem dX9_seekMiddle_166 : decode cX9_seekMiddle 166 = .ok (.iload 9, 2) := by decide +kernel
theorem dX9_seekMiddle_168 : decode cX9_seekMiddle 168 = .ok (.iload_n 2, 1) := by decide +kernel
theorem dX9_seekMiddle_169 : decode cX9_seekMiddle 169 = .ok (.aload_n 0, 1) := by decide +kernel
theorem dX9_seekMiddle_170 : decode cX9_seekMiddle 170 = .ok (.getfield 25, 3) := by decide +kernel
theorem dX9_seekMiddle_173 : decode cX9_seekMiddle 173 = .ok (.isub, 1) := by decide +kernel
theorem dX9_seekMiddle_174 : decode cX9_seekMiddle 174 = .ok (.invokestatic 48, 3) := by decide +kernel
theorem dX9_seekMiddle_177 : decode cX9_seekMiddle 177 = .ok (.iastore, 1) := by decide +kernel
theorem dX9_seekMiddle_178 : decode cX9_seekMiddle 178 = .ok (.iconst 1, 1) := by decide +kernel
theorem dX9_seekMiddle_179 : decode cX9_seekMiddle 179 = .ok (.ireturn, 1) := by decide +kernel
theorem dX9_seekMiddle_180 : decode cX9_seekMiddle 180 = .ok (.aload_n 0, 1) := by decide +kernel
theorem dX9_seekMiddle_181 : decode cX9_seekMiddle 181 = .ok (.dup, 1) := by decide +kernel
theorem dX9_seekMiddle_182 : decode cX9_seekMiddle 182 = .ok (.getfield 25, 3) := by decide +kernel
theorem dX9_seekMiddle_185 : decode cX9_seekMiddle 185 = .ok (.iload 10, 2) := by decide +kernel
theorem dX9_seekMiddle_187 : decode cX9_seekMiddle 187 = .ok (.iadd, 1) := by decide +kernel
theorem dX9_seekMiddle_188 : decode cX9_seekMiddle 188 = .ok (.putfield 25, 3) := by decide +kernel
theorem dX9_seekMiddle_191 : decode cX9_seekMiddle 191 = .ok (.iinc 8 1, 3) := by decide +kernel
theorem dX9_seekMiddle_194 : decode cX9_seekMiddle 194 = .ok (.goto (-128), 3) := by decide +kernel
theorem dX9_seekMiddle_197 : decode cX9_seekMiddle 197 = .ok (.iinc 7 1, 3) := by decide +kernel
theorem dX9_seekMiddle_200 : decode cX9_seekMiddle 200 = .ok (.goto (-144), 3) := by decide +kernel
theorem dX9_seekMiddle_203 : decode cX9_seekMiddle 203 = .ok (.iconst 0, 1) := by decide +kernel
theorem dX9_seekMiddle_204 : decode cX9_seekMiddle 204 = .ok (.ireturn, 1) := by decide +kernel
theorem dX9_placeOfBit_0 : decode cX9_placeOfBit 0 = .ok (.iload_n 1, 1) := by decide +kernel
theorem dX9_placeOfBit_1 : decode cX9_placeOfBit 1 = .ok (.istore_n 2, 1) := by decide +kernel
theorem dX9_placeOfBit_2 : decode cX9_placeOfBit 2 = .ok (.iconst 0, 1) := by decide +kernel
theorem dX9_placeOfBit_3 : decode cX9_placeOfBit 3 = .ok (.istore_n 3, 1) := by decide +kernel
theorem dX9_placeOfBit_4 : decode cX9_placeOfBit 4 = .ok (.iload_n 3, 1) := by decide +kernel
theorem dX9_placeOfBit_5 : decode cX9_placeOfBit 5 = .ok (.bipush 12, 2) := by decide +kernel
theorem dX9_placeOfBit_7 : decode cX9_placeOfBit 7 = .ok (.if_icmp .ge 26, 3) := by decide +kernel
theorem dX9_placeOfBit_10 : decode cX9_placeOfBit 10 = .ok (.iload_n 0, 1) := by decide +kernel
theorem dX9_placeOfBit_11 : decode cX9_placeOfBit 11 = .ok (.iload_n 3, 1) := by decide +kernel
theorem dX9_placeOfBit_12 : decode cX9_placeOfBit 12 = .ok (.ishr, 1) := by decide +kernel
theorem dX9_placeOfBit_13 : decode cX9_placeOfBit 13 = .ok (.iconst 1, 1) := by decide +kernel
theorem dX9_placeOfBit_14 : decode cX9_placeOfBit 14 = .ok (.iand, 1) := by decide +kernel
theorem dX9_placeOfBit_15 : decode cX9_placeOfBit 15 = .ok (.ifCond .eq 12, 3) := by decide +kernel
theorem dX9_placeOfBit_18 : decode cX9_placeOfBit 18 = .ok (.iload_n 2, 1) := by decide +kernel
theorem dX9_placeOfBit_19 : decode cX9_placeOfBit 19 = .ok (.ifCond .ne 5, 3) := by decide +kernel
theorem dX9_placeOfBit_22 : decode cX9_placeOfBit 22 = .ok (.iload_n 3, 1) := by decide +kernel
theorem dX9_placeOfBit_23 : decode cX9_placeOfBit 23 = .ok (.ireturn, 1) := by decide +kernel
theorem dX9_placeOfBit_24 : decode cX9_placeOfBit 24 = .ok (.iinc 2 (-1), 3) := by decide +kernel
theorem dX9_placeOfBit_27 : decode cX9_placeOfBit 27 = .ok (.iinc 3 1, 3) := by decide +kernel
theorem dX9_placeOfBit_30 : decode cX9_placeOfBit 30 = .ok (.goto (-26), 3) := by decide +kernel
theorem dX9_placeOfBit_33 : decode cX9_placeOfBit 33 = .ok (.iconst 0, 1) := by decide +kernel
theorem dX9_placeOfBit_34 : decode cX9_placeOfBit 34 = .ok (.ireturn, 1) := by decide +kernel
set_option maxRecDepth 20000 in
theorem ggX9_alignAll_X9_alignedLasts : GoodIn wsX9_alignAll wsX9_alignedLasts := goodIn_r _ [8, 1, 9, 10, 2, 11, 12, 7, 13, 14, 15, 16, 17, 18, 19, 20, 21, 22, 23, 24, 25, 26, 27, 28, 29, 30] (by decide +kernel) (by decide +kernel)
set_option maxRecDepth 20000 in
theorem gX9_alignAll_X9_alignedLasts : GoodIn wsX9_alignAll (wsV RX9 52 RX9 yX9_alignedLasts wsX9_alignedLasts) := goodIn_app (goodIn_of _ (by decide +kernel)) ggX9_alignAll_X9_alignedLasts
theorem dX9_alignAll_0 : decode cX9_alignAll 0 = .ok (.iconst 1, 1) := by decide +kernel
theorem dX9_alignAll_1 : decode cX9_alignAll 1 = .ok (.istore_n 2, 1) := by decide +kernel
theorem dX9_alignAll_2 : decode cX9_alignAll 2 = .ok (.iload_n 2, 1) := by decide +kernel
theorem dX9_alignAll_3 : decode cX9_alignAll 3 = .ok (.aload_n 1, 1) := by decide +kernel
theorem dX9_alignAll_4 : decode cX9_alignAll 4 = .ok (.getfield 29, 3) := by decide +kernel
theorem dX9_alignAll_7 : decode cX9_alignAll 7 = .ok (.iconst 1, 1) := by decide +kernel
theorem dX9_alignAll_8 : decode cX9_alignAll 8 = .ok (.isub, 1) := by decide +kernel
theorem dX9_alignAll_9 : decode cX9_alignAll 9 = .ok (.if_icmp .ge 45, 3) := by decide +kernel
theorem dX9_alignAll_12 : decode cX9_alignAll 12 = .ok (.iconst 0, 1) := by decide +kernel
theorem dX9_alignAll_13 : decode cX9_alignAll 13 = .ok (.istore_n 3, 1) := by decide +kernel
theorem dX9_alignAll_14 : decode cX9_alignAll 14 = .ok (.iload_n 3, 1) := by decide +kernel
theorem dX9_alignAll_15 : decode cX9_alignAll 15 = .ok (.aload_n 1, 1) := by decide +kernel
theorem dX9_alignAll_16 : decode cX9_alignAll 16 = .ok (.getfield 34, 3) := by decide +kernel
theorem dX9_alignAll_19 : decode cX9_alignAll 19 = .ok (.iload_n 2, 1) := by decide +kernel
theorem dX9_alignAll_20 : decode cX9_alignAll 20 = .ok (.iaload, 1) := by decide +kernel
theorem dX9_alignAll_21 : decode cX9_alignAll 21 = .ok (.if_icmp .ge 27, 3) := by decide +kernel
theorem dX9_alignAll_24 : decode cX9_alignAll 24 = .ok (.aload_n 0, 1) := by decide +kernel
theorem dX9_alignAll_25 : decode cX9_alignAll 25 = .ok (.getfield 9, 3) := by decide +kernel
theorem dX9_alignAll_28 : decode cX9_alignAll 28 = .ok (.iload_n 2, 1) := by decide +kernel
theorem dX9_alignAll_29 : decode cX9_alignAll 29 = .ok (.bipush 12, 2) := by decide +kernel
theorem dX9_alignAll_31 : decode cX9_alignAll 31 = .ok (.imul, 1) := by decide +kernel
theorem dX9_alignAll_32 : decode cX9_alignAll 32 = .ok (.iload_n 3, 1) := by decide +kernel
theorem dX9_alignAll_33 : decode cX9_alignAll 33 = .ok (.iadd, 1) := by decide +kernel
theorem dX9_alignAll_34 : decode cX9_alignAll 34 = .ok (.aload_n 0, 1) := by decide +kernel
theorem dX9_alignAll_35 : decode cX9_alignAll 35 = .ok (.aload_n 1, 1) := by decide +kernel
theorem dX9_alignAll_36 : decode cX9_alignAll 36 = .ok (.iload_n 2, 1) := by decide +kernel
theorem dX9_alignAll_37 : decode cX9_alignAll 37 = .ok (.iload_n 3, 1) := by decide +kernel
theorem dX9_alignAll_38 : decode cX9_alignAll 38 = .ok (.invokevirtual 52, 3) := by decide +kernel
theorem dX9_alignAll_41 : decode cX9_alignAll 41 = .ok (.iastore, 1) := by decide +kernel
theorem dX9_alignAll_42 : decode cX9_alignAll 42 = .ok (.iinc 3 1, 3) := by decide +kernel
theorem dX9_alignAll_45 : decode cX9_alignAll 45 = .ok (.goto (-31), 3) := by decide +kernel
theorem dX9_alignAll_48 : decode cX9_alignAll 48 = .ok (.iinc 2 1, 3) := by decide +kernel
theorem dX9_alignAll_51 : decode cX9_alignAll 51 = .ok (.goto (-49), 3) := by decide +kernel
theorem dX9_alignAll_54 : decode cX9_alignAll 54 = .ok (.return_, 1) := by decide +kernel
set_option maxRecDepth 20000 in
theorem ggX9_alignedLasts_X9_numberAt : GoodIn wsX9_alignedLasts wsX9_numberAt := goodIn_r _ [8, 9, 10, 11, 12, 13, 14, 15, 16, 17, 18, 19, 20, 21, 22] (by decide +kernel) (by decide +kernel)
set_option maxRecDepth 20000 in
theorem gX9_alignedLasts_X9_numberAt : GoodIn wsX9_alignedLasts (va_wsS RX9 56 yX9_numberAt wsX9_numberAt) := goodIn_app (goodIn_of _ (by decide +kernel)) ggX9_alignedLasts_X9_numberAt
theorem dX9_alignedLasts_0 : decode cX9_alignedLasts 0 = .ok (.aload_n 1, 1) := by decide +kernel
theorem dX9_alignedLasts_1 : decode cX9_alignedLasts 1 = .ok (.getfield 29, 3) := by decide +kernel
theorem dX9_alignedLasts_4 : decode cX9_alignedLasts 4 = .ok (.iconst 1, 1) := by decide +kernel
theorem dX9_alignedLasts_5 : decode cX9_alignedLasts 5 = .ok (.isub, 1) := by decide +kernel
theorem dX9_alignedLasts_6 : decode cX9_alignedLasts 6 = .ok (.istore 4, 2) := by decide +kernel
theorem dX9_alignedLasts_8 : decode cX9_alignedLasts 8 = .ok (.aload_n 1, 1) := by decide +kernel
theorem dX9_alignedLasts_9 : decode cX9_alignedLasts 9 = .ok (.iconst 0, 1) := by decide +kernel
theorem dX9_alignedLasts_10 : decode cX9_alignedLasts 10 = .ok (.aload_n 0, 1) := by decide +kernel
theorem dX9_alignedLasts_11 : decode cX9_alignedLasts 11 = .ok (.getfield 15, 3) := by decide +kernel
theorem dX9_alignedLasts_14 : decode cX9_alignedLasts 14 = .ok (.iconst 0, 1) := by decide +kernel
theorem dX9_alignedLasts_15 : decode cX9_alignedLasts 15 = .ok (.iaload, 1) := by decide +kernel
theorem dX9_alignedLasts_16 : decode cX9_alignedLasts 16 = .ok (.invokestatic 56, 3) := by decide +kernel
theorem dX9_alignedLasts_19 : decode cX9_alignedLasts 19 = .ok (.istore 5, 2) := by decide +kernel
theorem dX9_alignedLasts_21 : decode cX9_alignedLasts 21 = .ok (.aload_n 1, 1) := by decide +kernel
theorem dX9_alignedLasts_22 : decode cX9_alignedLasts 22 = .ok (.getfield 59, 3) := by decide +kernel
theorem dX9_alignedLasts_25 : decode cX9_alignedLasts 25 = .ok (.iload 4, 2) := by decide +kernel
theorem dX9_alignedLasts_27 : decode cX9_alignedLasts 27 = .ok (.iaload, 1) := by decide +kernel
theorem dX9_alignedLasts_28 : decode cX9_alignedLasts 28 = .ok (.aload_n 1, 1) := by decide +kernel
theorem dX9_alignedLasts_29 : decode cX9_alignedLasts 29 = .ok (.getfield 59, 3) := by decide +kernel
theorem dX9_alignedLasts_32 : decode cX9_alignedLasts 32 = .ok (.iconst 0, 1) := by decide +kernel
theorem dX9_alignedLasts_33 : decode cX9_alignedLasts 33 = .ok (.iaload, 1) := by decide +kernel
theorem dX9_alignedLasts_34 : decode cX9_alignedLasts 34 = .ok (.isub, 1) := by decide +kernel
theorem dX9_alignedLasts_35 : decode cX9_alignedLasts 35 = .ok (.i2l, 1) := by decide +kernel
theorem dX9_alignedLasts_36 : decode cX9_alignedLasts 36 = .ok (.lstore 6, 2) := by decide +kernel
theorem dX9_alignedLasts_38 : decode cX9_alignedLasts 38 = .ok (.aload_n 1, 1) := by decide +kernel
theorem dX9_alignedLasts_39 : decode cX9_alignedLasts 39 = .ok (.getfield 59, 3) := by decide +kernel
theorem dX9_alignedLasts_42 : decode cX9_alignedLasts 42 = .ok (.iload_n 2, 1) := by decide +kernel
theorem dX9_alignedLasts_43 : decode cX9_alignedLasts 43 = .ok (.iaload, 1) := by decide +kernel
theorem dX9_alignedLasts_44 : decode cX9_alignedLasts 44 = .ok (.aload_n 1, 1) := by decide +kernel
theorem dX9_alignedLasts_45 : decode cX9_alignedLasts 45 = .ok (.getfield 59, 3) := by decide +kernel
theorem dX9_alignedLasts_48 : decode cX9_alignedLasts 48 = .ok (.iconst 0, 1) := by decide +kernel
theorem dX9_alignedLasts_49 : decode cX9_alignedLasts 49 = .ok (.iaload, 1) := by decide +kernel
theorem dX9_alignedLasts_50 : decode cX9_alignedLasts 50 = .ok (.isub, 1) := by decide +kernel
theorem dX9_alignedLasts_51 : decode cX9_alignedLasts 51 = .ok (.i2l, 1) := by decide +kernel
theorem dX9_alignedLasts_52 : decode cX9_alignedLasts 52 = .ok (.lstore 8, 2) := by decide +kernel
theorem dX9_alignedLasts_54 : decode cX9_alignedLasts 54 = .ok (.aload_n 1, 1) := by decide +kernel
theorem dX9_alignedLasts_55 : decode cX9_alignedLasts 55 = .ok (.iload_n 2, 1) := by decide +kernel
theorem dX9_alignedLasts_56 : decode cX9_alignedLasts 56 = .ok (.iload_n 3, 1) := by decide +kernel
theorem dX9_alignedLasts_57 : decode cX9_alignedLasts 57 = .ok (.invokestatic 56, 3) := by decide +kernel
theorem dX9_alignedLasts_60 : decode cX9_alignedLasts 60 = .ok (.iload 5, 2) := by decide +kernel
theorem dX9_alignedLasts_62 : decode cX9_alignedLasts 62 = .ok (.isub, 1) := by decide +kernel
theorem dX9_alignedLasts_63 : decode cX9_alignedLasts 63 = .ok (.i2l, 1) := by decide +kernel
theorem dX9_alignedLasts_64 : decode cX9_alignedLasts 64 = .ok (.lload 6, 2) := by decide +kernel
theorem dX9_alignedLasts_66 : decode cX9_alignedLasts 66 = .ok (.lmul, 1) := by decide +kernel
theorem dX9_alignedLasts_67 : decode cX9_alignedLasts 67 = .ok (.lstore 10, 2) := by decide +kernel
theorem dX9_alignedLasts_69 : decode cX9_alignedLasts 69 = .ok (.iconst 0, 1) := by decide +kernel
theorem dX9_alignedLasts_70 : decode cX9_alignedLasts 70 = .ok (.istore 12, 2) := by decide +kernel
theorem dX9_alignedLasts_72 : decode cX9_alignedLasts 72 = .ok (.iconst 0, 1) := by decide +kernel
theorem dX9_alignedLasts_73 : decode cX9_alignedLasts 73 = .ok (.istore 13, 2) := by decide +kernel
theorem dX9_alignedLasts_75 : decode cX9_alignedLasts 75 = .ok (.iload 13, 2) := by decide +kernel
theorem dX9_alignedLasts_77 : decode cX9_alignedLasts 77 = .ok (.aload_n 1, 1) := by decide +kernel
theorem dX9_alignedLasts_78 : decode cX9_alignedLasts 78 = .ok (.getfield 34, 3) := by decide +kernel
theorem dX9_alignedLasts_81 : decode cX9_alignedLasts 81 = .ok (.iload 4, 2) := by decide +kernel
theorem dX9_alignedLasts_83 : decode cX9_alignedLasts 83 = .ok (.iaload, 1) := by decide +kernel
theorem dX9_alignedLasts_84 : decode cX9_alignedLasts 84 = .ok (.if_icmp .ge 55, 3) := by decide +kernel
theorem dX9_alignedLasts_87 : decode cX9_alignedLasts 87 = .ok (.lload 10, 2) := by decide +kernel
theorem dX9_alignedLasts_89 : decode cX9_alignedLasts 89 = .ok (.aload_n 1, 1) := by decide +kernel
theorem dX9_alignedLasts_90 : decode cX9_alignedLasts 90 = .ok (.iload 4, 2) := by decide +kernel
theorem dX9_alignedLasts_92 : decode cX9_alignedLasts 92 = .ok (.iload 13, 2) := by decide +kernel
theorem dX9_alignedLasts_94 : decode cX9_alignedLasts 94 = .ok (.invokestatic 56, 3) := by decide +kernel
theorem dX9_alignedLasts_97 : decode cX9_alignedLasts 97 = .ok (.iload 5, 2) := by decide +kernel
theorem dX9_alignedLasts_99 : decode cX9_alignedLasts 99 = .ok (.isub, 1) := by decide +kernel
theorem dX9_alignedLasts_100 : decode cX9_alignedLasts 100 = .ok (.i2l, 1) := by decide +kernel
theorem dX9_alignedLasts_101 : decode cX9_alignedLasts 101 = .ok (.lload 8, 2) := by decide +kernel
theorem dX9_alignedLasts_103 : decode cX9_alignedLasts 103 = .ok (.lmul, 1) := by decide +kernel
theorem dX9_alignedLasts_104 : decode cX9_alignedLasts 104 = .ok (.lsub, 1) := by decide +kernel
theorem dX9_alignedLasts_105 : decode cX9_alignedLasts 105 = .ok (.lstore 14, 2) := by decide +kernel
theorem dX9_alignedLasts_107 : decode cX9_alignedLasts 107 = .ok (.lload 14, 2) := by decide +kernel
theorem dX9_alignedLasts_109 : decode cX9_alignedLasts 109 = .ok (.lload 6, 2) := by decide +kernel
theorem dX9_alignedLasts_111 : decode cX9_alignedLasts 111 = .ok (.lcmp, 1) := by decide +kernel
theorem dX9_alignedLasts_112 : decode cX9_alignedLasts 112 = .ok (.ifCond .gt 21, 3) := by decide +kernel
theorem dX9_alignedLasts_115 : decode cX9_alignedLasts 115 = .ok (.lload 14, 2) := by decide +kernel
theorem dX9_alignedLasts_117 : decode cX9_alignedLasts 117 = .ok (.lneg, 1) := by decide +kernel
theorem dX9_alignedLasts_118 : decode cX9_alignedLasts 118 = .ok (.lload 6, 2) := by decide +kernel
theorem dX9_alignedLasts_120 : decode cX9_alignedLasts 120 = .ok (.lcmp, 1) := by decide +kernel
theorem dX9_alignedLasts_121 : decode cX9_alignedLasts 121 = .ok (.ifCond .gt 12, 3) := by decide +kernel
theorem dX9_alignedLasts_124 : decode cX9_alignedLasts 124 = .ok (.iload 12, 2) := by decide +kernel
theorem dX9_alignedLasts_126 : decode cX9_alignedLasts 126 = .ok (.iconst 1, 1) := by decide +kernel
theorem dX9_alignedLasts_127 : decode cX9_alignedLasts 127 = .ok (.iload 13, 2) := by decide +kernel
theorem dX9_alignedLasts_129 : decode cX9_alignedLasts 129 = .ok (.ishl, 1) := by decide +kernel
theorem dX9_alignedLasts_130 : decode cX9_alignedLasts 130 = .ok (.ior, 1) := by decide +kernel
theorem dX9_alignedLasts_131 : decode cX9_alignedLasts 131 = .ok (.istore 12, 2) := by decide +kernel
theorem dX9_alignedLasts_133 : decode cX9_alignedLasts 133 = .ok (.iinc 13 1, 3) := by decide +kernel
theorem dX9_alignedLasts_136 : decode cX9_alignedLasts 136 = .ok (.goto (-61), 3) := by decide +kernel
theorem dX9_alignedLasts_139 : decode cX9_alignedLasts 139 = .ok (.iload 12, 2) := by decide +kernel
theorem dX9_alignedLasts_141 : decode cX9_alignedLasts 141 = .ok (.ireturn, 1) := by decide +kernel
theorem dX9_numberAt_0 : decode cX9_numberAt 0 = .ok (.aload_n 0, 1) := by decide +kernel
theorem dX9_numberAt_1 : decode cX9_numberAt 1 = .ok (.getfield 62, 3) := by decide +kernel
theorem dX9_numberAt_4 : decode cX9_numberAt 4 = .ok (.iload_n 1, 1) := by decide +kernel
theorem dX9_numberAt_5 : decode cX9_numberAt 5 = .ok (.bipush 12, 2) := by decide +kernel
theorem dX9_numberAt_7 : decode cX9_numberAt 7 = .ok (.imul, 1) := by decide +kernel
theorem dX9_numberAt_8 : decode cX9_numberAt 8 = .ok (.iload_n 2, 1) := by decide +kernel
theorem dX9_numberAt_9 : decode cX9_numberAt 9 = .ok (.iadd, 1) := by decide +kernel
theorem dX9_numberAt_10 : decode cX9_numberAt 10 = .ok (.iaload, 1) := by decide +kernel
theorem dX9_numberAt_11 : decode cX9_numberAt 11 = .ok (.ireturn, 1) := by decide +kernel
set_option maxRecDepth 20000 in
theorem ggX9_numberIn_X9_numberAt : GoodIn wsX9_numberIn wsX9_numberAt := goodIn_r _ [5, 6, 10, 11, 12, 13, 14, 15, 16, 17, 18, 19, 20, 21, 22] (by decide +kernel) (by decide +kernel)
set_option maxRecDepth 20000 in
theorem gX9_numberIn_X9_numberAt : GoodIn wsX9_numberIn (va_wsS RX9 56 yX9_numberAt wsX9_numberAt) := goodIn_app (goodIn_of _ (by decide +kernel)) ggX9_numberIn_X9_numberAt
theorem dX9_numberIn_0 : decode cX9_numberIn 0 = .ok (.aload_n 1, 1) := by decide +kernel
theorem dX9_numberIn_1 : decode cX9_numberIn 1 = .ok (.iload_n 2, 1) := by decide +kernel
theorem dX9_numberIn_2 : decode cX9_numberIn 2 = .ok (.aload_n 0, 1) := by decide +kernel
theorem dX9_numberIn_3 : decode cX9_numberIn 3 = .ok (.getfield 15, 3) := by decide +kernel
theorem dX9_numberIn_6 : decode cX9_numberIn 6 = .ok (.iload_n 2, 1) := by decide +kernel
theorem dX9_numberIn_7 : decode cX9_numberIn 7 = .ok (.iaload, 1) := by decide +kernel
theorem dX9_numberIn_8 : decode cX9_numberIn 8 = .ok (.invokestatic 56, 3) := by decide +kernel
theorem dX9_numberIn_11 : decode cX9_numberIn 11 = .ok (.ireturn, 1) := by decide +kernel
set_option maxRecDepth 20000 in
theorem ggX9_paceOf_X9_numberIn : GoodIn wsX9_paceOf wsX9_numberIn := goodIn_r _ [7, 8, 9, 10, 6, 11, 12, 26, 27, 28, 13, 14, 15, 16, 17, 18, 19, 20, 21, 22, 23, 24, 25] (by decide +kernel) (by decide +kernel)
set_option maxRecDepth 20000 in
theorem gX9_paceOf_X9_numberIn : GoodIn wsX9_paceOf (wsV RX9 65 RX9 yX9_numberIn wsX9_numberIn) := goodIn_app (goodIn_of _ (by decide +kernel)) ggX9_paceOf_X9_numberIn
theorem dX9_paceOf_0 : decode cX9_paceOf 0 = .ok (.aload_n 1, 1) := by decide +kernel
theorem dX9_paceOf_1 : decode cX9_paceOf 1 = .ok (.getfield 29, 3) := by decide +kernel
theorem dX9_paceOf_4 : decode cX9_paceOf 4 = .ok (.iconst 1, 1) := by decide +kernel
theorem dX9_paceOf_5 : decode cX9_paceOf 5 = .ok (.isub, 1) := by decide +kernel
theorem dX9_paceOf_6 : decode cX9_paceOf 6 = .ok (.istore_n 2, 1) := by decide +kernel
theorem dX9_paceOf_7 : decode cX9_paceOf 7 = .ok (.aload_n 1, 1) := by decide +kernel
theorem dX9_paceOf_8 : decode cX9_paceOf 8 = .ok (.getfield 59, 3) := by decide +kernel
theorem dX9_paceOf_11 : decode cX9_paceOf 11 = .ok (.iload_n 2, 1) := by decide +kernel
theorem dX9_paceOf_12 : decode cX9_paceOf 12 = .ok (.iaload, 1) := by decide +kernel
theorem dX9_paceOf_13 : decode cX9_paceOf 13 = .ok (.aload_n 1, 1) := by decide +kernel
theorem dX9_paceOf_14 : decode cX9_paceOf 14 = .ok (.getfield 59, 3) := by decide +kernel
theorem dX9_paceOf_17 : decode cX9_paceOf 17 = .ok (.iconst 0, 1) := by decide +kernel
theorem dX9_paceOf_18 : decode cX9_paceOf 18 = .ok (.iaload, 1) := by decide +kernel
theorem dX9_paceOf_19 : decode cX9_paceOf 19 = .ok (.isub, 1) := by decide +kernel
theorem dX9_paceOf_20 : decode cX9_paceOf 20 = .ok (.istore_n 3, 1) := by decide +kernel
theorem dX9_paceOf_21 : decode cX9_paceOf 21 = .ok (.aload_n 0, 1) := by decide +kernel
theorem dX9_paceOf_22 : decode cX9_paceOf 22 = .ok (.aload_n 1, 1) := by decide +kernel
theorem dX9_paceOf_23 : decode cX9_paceOf 23 = .ok (.iload_n 2, 1) := by decide +kernel
theorem dX9_paceOf_24 : decode cX9_paceOf 24 = .ok (.invokevirtual 65, 3) := by decide +kernel
theorem dX9_paceOf_27 : decode cX9_paceOf 27 = .ok (.aload_n 0, 1) := by decide +kernel
theorem dX9_paceOf_28 : decode cX9_paceOf 28 = .ok (.aload_n 1, 1) := by decide +kernel
theorem dX9_paceOf_29 : decode cX9_paceOf 29 = .ok (.iconst 0, 1) := by decide +kernel
theorem dX9_paceOf_30 : decode cX9_paceOf 30 = .ok (.invokevirtual 65, 3) := by decide +kernel
theorem dX9_paceOf_33 : decode cX9_paceOf 33 = .ok (.isub, 1) := by decide +kernel
theorem dX9_paceOf_34 : decode cX9_paceOf 34 = .ok (.istore 4, 2) := by decide +kernel
theorem dX9_paceOf_36 : decode cX9_paceOf 36 = .ok (.iload_n 3, 1) := by decide +kernel
theorem dX9_paceOf_37 : decode cX9_paceOf 37 = .ok (.ifCond .le 13, 3) := by decide +kernel
theorem dX9_paceOf_40 : decode cX9_paceOf 40 = .ok (.bipush 16, 2) := by decide +kernel
theorem dX9_paceOf_42 : decode cX9_paceOf 42 = .ok (.iload 4, 2) := by decide +kernel
theorem dX9_paceOf_44 : decode cX9_paceOf 44 = .ok (.imul, 1) := by decide +kernel
theorem dX9_paceOf_45 : decode cX9_paceOf 45 = .ok (.iload_n 3, 1) := by decide +kernel
theorem dX9_paceOf_46 : decode cX9_paceOf 46 = .ok (.idiv, 1) := by decide +kernel
theorem dX9_paceOf_47 : decode cX9_paceOf 47 = .ok (.goto 4, 3) := by decide +kernel
theorem dX9_paceOf_50 : decode cX9_paceOf 50 = .ok (.iconst 0, 1) := by decide +kernel
theorem dX9_paceOf_51 : decode cX9_paceOf 51 = .ok (.ireturn, 1) := by decide +kernel
set_option maxRecDepth 20000 in
theorem ggX10_init_X5_init : GoodIn wsX10_init wsX5_init := goodIn_r _ [49, 50, 2, 3, 45, 51, 52, 53, 54, 55, 56, 57, 58, 59, 60, 61, 62, 111, 112, 113, 114, 115, 116, 117, 118, 119, 120, 121, 122, 123] (by decide +kernel) (by decide +kernel)
set_option maxRecDepth 20000 in
theorem gX10_init_X5_init : GoodIn wsX10_init (wsX5_init) := ggX10_init_X5_init
set_option maxRecDepth 20000 in
theorem ggX10_init_X8_init : GoodIn wsX10_init wsX8_init := goodIn_r _ [64, 65, 2, 3, 45, 66, 67, 138, 139, 140, 141] (by decide +kernel) (by decide +kernel)
set_option maxRecDepth 20000 in
theorem gX10_init_X8_init_n21 : GoodIn wsX10_init (wsX8_init) := ggX10_init_X8_init
set_option maxRecDepth 20000 in
theorem ggX10_init_X6_init : GoodIn wsX10_init wsX6_init := goodIn_r _ [69, 70, 2, 3, 45, 71, 142, 143, 144, 145, 146, 147, 148] (by decide +kernel) (by decide +kernel)
set_option maxRecDepth 20000 in
theorem gX10_init_X6_init_n28 : GoodIn wsX10_init (wsX6_init) := ggX10_init_X6_init
set_option maxRecDepth 20000 in
theorem ggX10_init_X4_init : GoodIn wsX10_init wsX4_init := goodIn_r _ [74, 75, 2, 3, 76, 77, 5, 6, 78, 48, 49, 50, 45, 51, 52, 53, 54, 55, 56, 57, 58, 59, 60, 61, 62, 149, 150, 151, 111, 112, 113, 114, 115, 116, 117, 118, 119, 120, 121, 122, 123] (by decide +kernel) (by decide +kernel)
set_option maxRecDepth 20000 in
theorem gX10_init_X4_init : GoodIn wsX10_init (wsX4_init) := ggX10_init_X4_init
set_option maxRecDepth 20000 in
theorem ggX10_init_X3_init : GoodIn wsX10_init wsX3_init := goodIn_r _ [80, 81, 2, 3, 45, 82, 83, 84, 85, 86, 152, 153, 154, 155, 156, 157] (by decide +kernel) (by decide +kernel)
set_option maxRecDepth 20000 in
theorem gX10_init_X3_init_n54 : GoodIn wsX10_init (wsX3_init) := ggX10_init_X3_init
set_option maxRecDepth 20000 in
theorem ggX10_init_X9_init : GoodIn wsX10_init wsX9_init := goodIn_r _ [88, 89, 2, 3, 45, 90, 91, 158, 159, 160] (by decide +kernel) (by decide +kernel)
set_option maxRecDepth 20000 in
theorem gX10_init_X9_init_n61 : GoodIn wsX10_init (wsX9_init) := ggX10_init_X9_init
set_option maxRecDepth 20000 in
theorem ggX10_init_X2_init : GoodIn wsX10_init wsX2_init := goodIn_r _ [93, 94, 2, 3, 45, 95, 96, 97, 161, 162, 163, 164, 165, 166] (by decide +kernel) (by decide +kernel)
set_option maxRecDepth 20000 in
theorem gX10_init_X2_init_n68 : GoodIn wsX10_init (wsX2_init) := ggX10_init_X2_init
set_option maxRecDepth 20000 in
theorem ggX10_init_X1_init : GoodIn wsX10_init wsX1_init := goodIn_r _ [99, 100, 2, 3, 101, 102, 103, 104, 45, 105, 106, 167, 168, 169, 170, 171, 172, 173, 174, 175, 176, 177, 178, 179] (by decide +kernel) (by decide +kernel)
set_option maxRecDepth 20000 in
theorem gX10_init_X1_init_n75 : GoodIn wsX10_init (wsX1_init) := ggX10_init_X1_init
set_option maxRecDepth 20000 in
theorem ggX10_init_X0_init : GoodIn wsX10_init wsX0_init := goodIn_r _ [108, 109, 2, 3, 45, 110, 180] (by decide +kernel) (by decide +kernel)
set_option maxRecDepth 20000 in
theorem gX10_init_X0_init_n82 : GoodIn wsX10_init (wsX0_init) := ggX10_init_X0_init
theorem dX10_init_0 : decode cX10_init 0 = .ok (.aload_n 0, 1) := by decide +kernel
theorem dX10_init_1 : decode cX10_init 1 = .ok (.invokespecial 1, 3) := by decide +kernel
theorem dX10_init_4 : decode cX10_init 4 = .ok (.aload_n 0, 1) := by decide +kernel
theorem dX10_init_5 : decode cX10_init 5 = .ok (.new 7, 3) := by decide +kernel
theorem dX10_init_8 : decode cX10_init 8 = .ok (.dup, 1) := by decide +kernel
theorem dX10_init_9 : decode cX10_init 9 = .ok (.invokespecial 9, 3) := by decide +kernel
theorem dX10_init_12 : decode cX10_init 12 = .ok (.putfield 10, 3) := by decide +kernel
theorem dX10_init_15 : decode cX10_init 15 = .ok (.aload_n 0, 1) := by decide +kernel
theorem dX10_init_16 : decode cX10_init 16 = .ok (.new 7, 3) := by decide +kernel
theorem dX10_init_19 : decode cX10_init 19 = .ok (.dup, 1) := by decide +kernel
theorem dX10_init_20 : decode cX10_init 20 = .ok (.invokespecial 9, 3) := by decide +kernel
theorem dX10_init_23 : decode cX10_init 23 = .ok (.putfield 16, 3) := by decide +kernel
theorem dX10_init_26 : decode cX10_init 26 = .ok (.aload_n 0, 1) := by decide +kernel
theorem dX10_init_27 : decode cX10_init 27 = .ok (.new 19, 3) := by decide +kernel
theorem dX10_init_30 : decode cX10_init 30 = .ok (.dup, 1) := by decide +kernel
theorem dX10_init_31 : decode cX10_init 31 = .ok (.invokespecial 21, 3) := by decide +kernel
theorem dX10_init_34 : decode cX10_init 34 = .ok (.putfield 22, 3) := by decide +kernel
theorem dX10_init_37 : decode cX10_init 37 = .ok (.aload_n 0, 1) := by decide +kernel
theorem dX10_init_38 : decode cX10_init 38 = .ok (.new 26, 3) := by decide +kernel
theorem dX10_init_41 : decode cX10_init 41 = .ok (.dup, 1) := by decide +kernel
theorem dX10_init_42 : decode cX10_init 42 = .ok (.invokespecial 28, 3) := by decide +kernel
theorem dX10_init_45 : decode cX10_init 45 = .ok (.putfield 29, 3) := by decide +kernel
theorem dX10_init_48 : decode cX10_init 48 = .ok (.aload_n 0, 1) := by decide +kernel
theorem dX10_init_49 : decode cX10_init 49 = .ok (.new 33, 3) := by decide +kernel
theorem dX10_init_52 : decode cX10_init 52 = .ok (.dup, 1) := by decide +kernel
theorem dX10_init_53 : decode cX10_init 53 = .ok (.invokespecial 35, 3) := by decide +kernel
theorem dX10_init_56 : decode cX10_init 56 = .ok (.putfield 36, 3) := by decide +kernel
theorem dX10_init_59 : decode cX10_init 59 = .ok (.aload_n 0, 1) := by decide +kernel
theorem dX10_init_60 : decode cX10_init 60 = .ok (.iconst 3, 1) := by decide +kernel
theorem dX10_init_61 : decode cX10_init 61 = .ok (.anewarray 7, 3) := by decide +kernel
theorem dX10_init_64 : decode cX10_init 64 = .ok (.putfield 40, 3) := by decide +kernel
theorem dX10_init_67 : decode cX10_init 67 = .ok (.aload_n 0, 1) := by decide +kernel
theorem dX10_init_68 : decode cX10_init 68 = .ok (.iconst 3, 1) := by decide +kernel
theorem dX10_init_69 : decode cX10_init 69 = .ok (.anewarray 19, 3) := by decide +kernel
theorem dX10_init_72 : decode cX10_init 72 = .ok (.putfield 44, 3) := by decide +kernel
theorem dX10_init_75 : decode cX10_init 75 = .ok (.aload_n 0, 1) := by decide +kernel
theorem dX10_init_76 : decode cX10_init 76 = .ok (.iconst 3, 1) := by decide +kernel
theorem dX10_init_77 : decode cX10_init 77 = .ok (.newarray .boolean, 2) := by decide +kernel
theorem dX10_init_79 : decode cX10_init 79 = .ok (.putfield 48, 3) := by decide +kernel
theorem dX10_init_82 : decode cX10_init 82 = .ok (.iconst 0, 1) := by decide +kernel
theorem dX10_init_83 : decode cX10_init 83 = .ok (.istore_n 1, 1) := by decide +kernel
theorem dX10_init_84 : decode cX10_init 84 = .ok (.iload_n 1, 1) := by decide +kernel
theorem dX10_init_85 : decode cX10_init 85 = .ok (.iconst 3, 1) := by decide +kernel
theorem dX10_init_86 : decode cX10_init 86 = .ok (.if_icmp .ge 35, 3) := by decide +kernel
theorem dX10_init_89 : decode cX10_init 89 = .ok (.aload_n 0, 1) := by decide +kernel
theorem dX10_init_90 : decode cX10_init 90 = .ok (.getfield 40, 3) := by decide +kernel
theorem dX10_init_93 : decode cX10_init 93 = .ok (.iload_n 1, 1) := by decide +kernel
theorem dX10_init_94 : decode cX10_init 94 = .ok (.new 7, 3) := by decide +kernel
theorem dX10_init_97 : decode cX10_init 97 = .ok (.dup, 1) := by decide +kernel
theorem dX10_init_98 : decode cX10_init 98 = .ok (.invokespecial 9, 3) := by decide +kernel
theorem dX10_init_101 : decode cX10_init 101 = .ok (.aastore, 1) := by decide +kernel
theorem dX10_init_102 : decode cX10_init 102 = .ok (.aload_n 0, 1) := by decide +kernel
theorem dX10_init_103 : decode cX10_init 103 = .ok (.getfield 44, 3) := by decide +kernel
theorem dX10_init_106 : decode cX10_init 106 = .ok (.iload_n 1, 1) := by decide +kernel
theorem dX10_init_107 : decode cX10_init 107 = .ok (.new 19, 3) := by decide +kernel
theorem dX10_init_110 : decode cX10_init 110 = .ok (.dup, 1) := by decide +kernel
theorem dX10_init_111 : decode cX10_init 111 = .ok (.invokespecial 21, 3) := by decide +kernel
theorem dX10_init_114 : decode cX10_init 114 = .ok (.aastore, 1) := by decide +kernel
theorem dX10_init_115 : decode cX10_init 115 = .ok (.iinc 1 1, 3) := by decide +kernel
theorem dX10_init_118 : decode cX10_init 118 = .ok (.goto (-34), 3) := by decide +kernel
theorem dX10_init_121 : decode cX10_init 121 = .ok (.aload_n 0, 1) := by decide +kernel
theorem dX10_init_122 : decode cX10_init 122 = .ok (.new 52, 3) := by decide +kernel
theorem dX10_init_125 : decode cX10_init 125 = .ok (.dup, 1) := by decide +kernel
theorem dX10_init_126 : decode cX10_init 126 = .ok (.invokespecial 54, 3) := by decide +kernel
theorem dX10_init_129 : decode cX10_init 129 = .ok (.putfield 55, 3) := by decide +kernel
theorem dX10_init_132 : decode cX10_init 132 = .ok (.aload_n 0, 1) := by decide +kernel
theorem dX10_init_133 : decode cX10_init 133 = .ok (.new 59, 3) := by decide +kernel
theorem dX10_init_136 : decode cX10_init 136 = .ok (.dup, 1) := by decide +kernel
theorem dX10_init_137 : decode cX10_init 137 = .ok (.invokespecial 61, 3) := by decide +kernel
theorem dX10_init_140 : decode cX10_init 140 = .ok (.putfield 62, 3) := by decide +kernel
theorem dX10_init_143 : decode cX10_init 143 = .ok (.aload_n 0, 1) := by decide +kernel
theorem dX10_init_144 : decode cX10_init 144 = .ok (.new 66, 3) := by decide +kernel
theorem dX10_init_147 : decode cX10_init 147 = .ok (.dup, 1) := by decide +kernel
theorem dX10_init_148 : decode cX10_init 148 = .ok (.invokespecial 68, 3) := by decide +kernel
theorem dX10_init_151 : decode cX10_init 151 = .ok (.putfield 69, 3) := by decide +kernel
theorem dX10_init_154 : decode cX10_init 154 = .ok (.aload_n 0, 1) := by decide +kernel
theorem dX10_init_155 : decode cX10_init 155 = .ok (.new 73, 3) := by decide +kernel
theorem dX10_init_158 : decode cX10_init 158 = .ok (.dup, 1) := by decide +kernel
theorem dX10_init_159 : decode cX10_init 159 = .ok (.invokespecial 75, 3) := by decide +kernel
theorem dX10_init_162 : decode cX10_init 162 = .ok (.putfield 76, 3) := by decide +kernel
theorem dX10_init_165 : decode cX10_init 165 = .ok (.aload_n 0, 1) := by decide +kernel
theorem dX10_init_166 : decode cX10_init 166 = .ok (.new 80, 3) := by decide +kernel
theorem dX10_init_169 : decode cX10_init 169 = .ok (.dup, 1) := by decide +kernel
theorem dX10_init_170 : decode cX10_init 170 = .ok (.invokespecial 82, 3) := by decide +kernel
theorem dX10_init_173 : decode cX10_init 173 = .ok (.putfield 83, 3) := by decide +kernel
theorem dX10_init_176 : decode cX10_init 176 = .ok (.aload_n 0, 1) := by decide +kernel
theorem dX10_init_177 : decode cX10_init 177 = .ok (.iconst 5, 1) := by decide +kernel
theorem dX10_init_178 : decode cX10_init 178 = .ok (.newarray .int, 2) := by decide +kernel
theorem dX10_init_180 : decode cX10_init 180 = .ok (.putfield 87, 3) := by decide +kernel
theorem dX10_init_183 : decode cX10_init 183 = .ok (.return_, 1) := by decide +kernel
set_option maxRecDepth 20000 in
theorem ggX10_type_X10_byteOf : GoodIn wsX10_type wsX10_byteOf := goodIn_r _ [6] (by decide +kernel) (by decide +kernel)
set_option maxRecDepth 20000 in
theorem gX10_type_X10_byteOf : GoodIn wsX10_type (va_wsS RX10 91 yX10_byteOf wsX10_byteOf) := goodIn_app (goodIn_of _ (by decide +kernel)) ggX10_type_X10_byteOf
set_option maxRecDepth 20000 in
theorem ggX10_type_X8_append : GoodIn wsX10_type wsX8_append := goodIn_r _ [11, 12, 13, 28, 29, 30, 31] (by decide +kernel) (by decide +kernel)
set_option maxRecDepth 20000 in
theorem gX10_type_X8_append : GoodIn wsX10_type (wsV RX10 99 RX8 yX8_append wsX8_append) := goodIn_app (goodIn_of _ (by decide +kernel)) ggX10_type_X8_append
theorem dX10_type_0 : decode cX10_type 0 = .ok (.iconst 0, 1) := by decide +kernel
theorem dX10_type_1 : decode cX10_type 1 = .ok (.istore_n 3, 1) := by decide +kernel
theorem dX10_type_2 : decode cX10_type 2 = .ok (.iload_n 3, 1) := by decide +kernel
theorem dX10_type_3 : decode cX10_type 3 = .ok (.bipush 8, 2) := by decide +kernel
theorem dX10_type_5 : decode cX10_type 5 = .ok (.if_icmp .ge 17, 3) := by decide +kernel
theorem dX10_type_8 : decode cX10_type 8 = .ok (.lload_n 1, 1) := by decide +kernel
theorem dX10_type_9 : decode cX10_type 9 = .ok (.iload_n 3, 1) := by decide +kernel
theorem dX10_type_10 : decode cX10_type 10 = .ok (.invokestatic 91, 3) := by decide +kernel
theorem dX10_type_13 : decode cX10_type 13 = .ok (.ifCond .eq 9, 3) := by decide +kernel
theorem dX10_type_16 : decode cX10_type 16 = .ok (.iinc 3 1, 3) := by decide +kernel
theorem dX10_type_19 : decode cX10_type 19 = .ok (.goto (-17), 3) := by decide +kernel
theorem dX10_type_22 : decode cX10_type 22 = .ok (.aload_n 0, 1) := by decide +kernel
theorem dX10_type_23 : decode cX10_type 23 = .ok (.getfield 22, 3) := by decide +kernel
theorem dX10_type_26 : decode cX10_type 26 = .ok (.getfield 95, 3) := by decide +kernel
theorem dX10_type_29 : decode cX10_type 29 = .ok (.iload_n 3, 1) := by decide +kernel
theorem dX10_type_30 : decode cX10_type 30 = .ok (.iadd, 1) := by decide +kernel
theorem dX10_type_31 : decode cX10_type 31 = .ok (.sipush 400, 3) := by decide +kernel
theorem dX10_type_34 : decode cX10_type 34 = .ok (.if_icmp .le 5, 3) := by decide +kernel
theorem dX10_type_37 : decode cX10_type 37 = .ok (.iconst (-1), 1) := by decide +kernel
theorem dX10_type_38 : decode cX10_type 38 = .ok (.ireturn, 1) := by decide +kernel
theorem dX10_type_39 : decode cX10_type 39 = .ok (.iconst 0, 1) := by decide +kernel
theorem dX10_type_40 : decode cX10_type 40 = .ok (.istore 4, 2) := by decide +kernel
theorem dX10_type_42 : decode cX10_type 42 = .ok (.iload 4, 2) := by decide +kernel
theorem dX10_type_44 : decode cX10_type 44 = .ok (.iload_n 3, 1) := by decide +kernel
theorem dX10_type_45 : decode cX10_type 45 = .ok (.if_icmp .ge 22, 3) := by decide +kernel
theorem dX10_type_48 : decode cX10_type 48 = .ok (.aload_n 0, 1) := by decide +kernel
theorem dX10_type_49 : decode cX10_type 49 = .ok (.getfield 22, 3) := by decide +kernel
theorem dX10_type_52 : decode cX10_type 52 = .ok (.lload_n 1, 1) := by decide +kernel
theorem dX10_type_53 : decode cX10_type 53 = .ok (.iload 4, 2) := by decide +kernel
theorem dX10_type_55 : decode cX10_type 55 = .ok (.invokestatic 91, 3) := by decide +kernel
theorem dX10_type_58 : decode cX10_type 58 = .ok (.invokevirtual 99, 3) := by decide +kernel
theorem dX10_type_61 : decode cX10_type 61 = .ok (.iinc 4 1, 3) := by decide +kernel
theorem dX10_type_64 : decode cX10_type 64 = .ok (.goto (-22), 3) := by decide +kernel
theorem dX10_type_67 : decode cX10_type 67 = .ok (.aload_n 0, 1) := by decide +kernel
theorem dX10_type_68 : decode cX10_type 68 = .ok (.getfield 22, 3) := by decide +kernel
theorem dX10_type_71 : decode cX10_type 71 = .ok (.getfield 95, 3) := by decide +kernel
theorem dX10_type_74 : decode cX10_type 74 = .ok (.ireturn, 1) := by decide +kernel
set_option maxRecDepth 20000 in
theorem ggX10_read_X6_readInto : GoodIn wsX10_read wsX6_readInto := goodIn_r _ [16, 17, 18, 19, 20, 21, 22, 23, 24, 25, 26, 27, 28, 29, 30, 31, 32, 33, 34, 35, 36, 37, 38, 15, 39, 40, 41, 42, 43, 44, 45, 46, 47, 48, 49, 50, 51, 52, 53, 54, 55, 56, 57, 58, 59, 60, 61, 62, 63, 64, 65, 66, 67, 68, 69, 70, 71, 72, 73, 74, 75, 76, 77, 78, 79, 80, 81, 82, 83, 84, 85, 86, 87, 88, 89, 90, 91, 92, 93, 94, 95, 96, 97, 98, 99, 100, 101, 102, 103, 104, 105, 106, 107, 108, 109, 110, 111, 112, 113, 114, 115, 116, 117, 118, 119, 120, 121, 122, 123, 124, 125, 126, 127, 128, 129, 130, 131, 132, 133, 134, 135, 136, 137, 138, 139, 140, 141, 142, 143, 144, 145, 146, 147, 148, 149, 150, 151, 152, 153, 154, 155, 156, 157, 158, 159, 160, 161, 162, 163, 164, 165, 166, 167, 168, 169, 201, 202, 203, 204, 205, 206, 207, 208, 209, 210, 211, 212, 213, 214, 215, 216, 217, 218, 219, 220, 197, 198, 199, 200] (by decide +kernel) (by decide +kernel)
set_option maxRecDepth 20000 in
theorem gX10_read_X6_readInto : GoodIn wsX10_read (wsV RX10 103 RX6 yX6_readInto wsX6_readInto) := goodIn_app (goodIn_of _ (by decide +kernel)) ggX10_read_X6_readInto
set_option maxRecDepth 20000 in
theorem ggX10_read_X5_copyFrom : GoodIn wsX10_read wsX5_copyFrom := goodIn_r _ [173, 153, 27, 28, 29, 30, 26, 167, 168, 169, 174, 175, 176, 31, 32, 33, 34, 35, 208, 209, 210, 211, 212, 213, 214, 215, 216, 217, 218, 219, 220] (by decide +kernel) (by decide +kernel)
set_option maxRecDepth 20000 in
theorem gX10_read_X5_copyFrom : GoodIn wsX10_read (wsV RX10 115 RX5 yX5_copyFrom wsX5_copyFrom) := goodIn_app (goodIn_of _ (by decide +kernel)) ggX10_read_X5_copyFrom
set_option maxRecDepth 20000 in
theorem ggX10_read_X4_forget : GoodIn wsX10_read wsX4_forget := goodIn_r _ [181, 182, 221, 222, 223] (by decide +kernel) (by decide +kernel)
set_option maxRecDepth 20000 in
theorem gX10_read_X4_forget : GoodIn wsX10_read (wsV RX10 119 RX4 yX4_forget wsX4_forget) := goodIn_app (goodIn_of _ (by decide +kernel)) ggX10_read_X4_forget
theorem dX10_read_0 : decode cX10_read 0 = .ok (.aload_n 0, 1) := by decide +kernel
theorem dX10_read_1 : decode cX10_read 1 = .ok (.getfield 29, 3) := by decide +kernel
theorem dX10_read_4 : decode cX10_read 4 = .ok (.aload_n 0, 1) := by decide +kernel
theorem dX10_read_5 : decode cX10_read 5 = .ok (.getfield 22, 3) := by decide +kernel
theorem dX10_read_8 : decode cX10_read 8 = .ok (.aload_n 0, 1) := by decide +kernel
theorem dX10_read_9 : decode cX10_read 9 = .ok (.getfield 16, 3) := by decide +kernel
theorem dX10_read_12 : decode cX10_read 12 = .ok (.invokevirtual 103, 3) := by decide +kernel
theorem dX10_read_15 : decode cX10_read 15 = .ok (.aload_n 0, 1) := by decide +kernel
theorem dX10_read_16 : decode cX10_read 16 = .ok (.getfield 22, 3) := by decide +kernel
theorem dX10_read_19 : decode cX10_read 19 = .ok (.iconst 0, 1) := by decide +kernel
theorem dX10_read_20 : decode cX10_read 20 = .ok (.putfield 95, 3) := by decide +kernel
theorem dX10_read_23 : decode cX10_read 23 = .ok (.aload_n 0, 1) := by decide +kernel
theorem dX10_read_24 : decode cX10_read 24 = .ok (.getfield 22, 3) := by decide +kernel
theorem dX10_read_27 : decode cX10_read 27 = .ok (.aload_n 0, 1) := by decide +kernel
theorem dX10_read_28 : decode cX10_read 28 = .ok (.getfield 29, 3) := by decide +kernel
theorem dX10_read_31 : decode cX10_read 31 = .ok (.getfield 107, 3) := by decide +kernel
theorem dX10_read_34 : decode cX10_read 34 = .ok (.putfield 110, 3) := by decide +kernel
theorem dX10_read_37 : decode cX10_read 37 = .ok (.aload_n 0, 1) := by decide +kernel
theorem dX10_read_38 : decode cX10_read 38 = .ok (.getfield 22, 3) := by decide +kernel
theorem dX10_read_41 : decode cX10_read 41 = .ok (.aload_n 0, 1) := by decide +kernel
theorem dX10_read_42 : decode cX10_read 42 = .ok (.getfield 29, 3) := by decide +kernel
theorem dX10_read_45 : decode cX10_read 45 = .ok (.getfield 111, 3) := by decide +kernel
theorem dX10_read_48 : decode cX10_read 48 = .ok (.putfield 114, 3) := by decide +kernel
theorem dX10_read_51 : decode cX10_read 51 = .ok (.aload_n 0, 1) := by decide +kernel
theorem dX10_read_52 : decode cX10_read 52 = .ok (.getfield 29, 3) := by decide +kernel
theorem dX10_read_55 : decode cX10_read 55 = .ok (.getfield 107, 3) := by decide +kernel
theorem dX10_read_58 : decode cX10_read 58 = .ok (.ifCond .eq 5, 3) := by decide +kernel
theorem dX10_read_61 : decode cX10_read 61 = .ok (.iconst (-1), 1) := by decide +kernel
theorem dX10_read_62 : decode cX10_read 62 = .ok (.ireturn, 1) := by decide +kernel
theorem dX10_read_63 : decode cX10_read 63 = .ok (.aload_n 0, 1) := by decide +kernel
theorem dX10_read_64 : decode cX10_read 64 = .ok (.getfield 10, 3) := by decide +kernel
theorem dX10_read_67 : decode cX10_read 67 = .ok (.aload_n 0, 1) := by decide +kernel
theorem dX10_read_68 : decode cX10_read 68 = .ok (.getfield 16, 3) := by decide +kernel
theorem dX10_read_71 : decode cX10_read 71 = .ok (.invokevirtual 115, 3) := by decide +kernel
theorem dX10_read_74 : decode cX10_read 74 = .ok (.aload_n 0, 1) := by decide +kernel
theorem dX10_read_75 : decode cX10_read 75 = .ok (.getfield 36, 3) := by decide +kernel
theorem dX10_read_78 : decode cX10_read 78 = .ok (.invokevirtual 119, 3) := by decide +kernel
theorem dX10_read_81 : decode cX10_read 81 = .ok (.aload_n 0, 1) := by decide +kernel
theorem dX10_read_82 : decode cX10_read 82 = .ok (.getfield 10, 3) := by decide +kernel
theorem dX10_read_85 : decode cX10_read 85 = .ok (.getfield 122, 3) := by decide +kernel
theorem dX10_read_88 : decode cX10_read 88 = .ok (.ireturn, 1) := by decide +kernel
theorem dX10_fault_0 : decode cX10_fault 0 = .ok (.iload_n 1, 1) := by decide +kernel
theorem dX10_fault_1 : decode cX10_fault 1 = .ok (.ifCond .eq 13, 3) := by decide +kernel
theorem dX10_fault_4 : decode cX10_fault 4 = .ok (.aload_n 0, 1) := by decide +kernel
theorem dX10_fault_5 : decode cX10_fault 5 = .ok (.getfield 22, 3) := by decide +kernel
theorem dX10_fault_8 : decode cX10_fault 8 = .ok (.getfield 114, 3) := by decide +kernel
theorem dX10_fault_11 : decode cX10_fault 11 = .ok (.goto 10, 3) := by decide +kernel
theorem dX10_fault_14 : decode cX10_fault 14 = .ok (.aload_n 0, 1) := by decide +kernel
theorem dX10_fault_15 : decode cX10_fault 15 = .ok (.getfield 22, 3) := by decide +kernel
theorem dX10_fault_18 : decode cX10_fault 18 = .ok (.getfield 110, 3) := by decide +kernel
theorem dX10_fault_21 : decode cX10_fault 21 = .ok (.ireturn, 1) := by decide +kernel
set_option maxRecDepth 20000 in
theorem ggX10_gap_X5_indexOfGap : GoodIn wsX10_gap wsX5_indexOfGap := goodIn_r _ [8, 9, 10, 71, 72, 73, 74, 75, 76, 77, 78, 79, 80, 81, 82, 83] (by decide +kernel) (by decide +kernel)
set_option maxRecDepth 20000 in
theorem gX10_gap_X5_indexOfGap : GoodIn wsX10_gap (wsV RX10 125 RX5 yX5_indexOfGap wsX5_indexOfGap) := goodIn_app (goodIn_of _ (by decide +kernel)) ggX10_gap_X5_indexOfGap
set_option maxRecDepth 20000 in
theorem ggX10_gap_X4_save : GoodIn wsX10_gap wsX4_save := goodIn_r _ [15, 16, 17, 18, 19, 20, 21, 7, 22, 10, 23, 24, 25, 26, 27, 28, 29, 30, 31, 32, 33, 9, 34, 35, 36, 37, 84, 85, 86, 71, 72, 73, 74, 75, 76, 77, 78, 79, 80, 81, 82, 83] (by decide +kernel) (by decide +kernel)
set_option maxRecDepth 20000 in
theorem gX10_gap_X4_save : GoodIn wsX10_gap (wsV RX10 129 RX4 yX4_save wsX4_save) := goodIn_app (goodIn_of _ (by decide +kernel)) ggX10_gap_X4_save
set_option maxRecDepth 20000 in
theorem ggX10_gap_X5_dropGap : GoodIn wsX10_gap wsX5_dropGap := goodIn_r _ [41, 9, 10, 42, 43, 44, 7, 45, 71, 72, 73, 74, 75, 76, 77, 78, 79, 80, 81, 82, 83] (by decide +kernel) (by decide +kernel)
set_option maxRecDepth 20000 in
theorem gX10_gap_X5_dropGap : GoodIn wsX10_gap (wsV RX10 132 RX5 yX5_dropGap wsX5_dropGap) := goodIn_app (goodIn_of _ (by decide +kernel)) ggX10_gap_X5_dropGap
set_option maxRecDepth 20000 in
theorem ggX10_gap_X10_isGap : GoodIn wsX10_gap wsX10_isGap := goodIn_r _ [49, 50, 51, 48, 52] (by decide +kernel) (by decide +kernel)
set_option maxRecDepth 20000 in
theorem gX10_gap_X10_isGap : GoodIn wsX10_gap (va_wsS RX10 135 yX10_isGap wsX10_isGap) := goodIn_app (goodIn_of _ (by decide +kernel)) ggX10_gap_X10_isGap
set_option maxRecDepth 20000 in
theorem ggX10_gap_X5_addGap : GoodIn wsX10_gap wsX5_addGap := goodIn_r _ [56, 9, 10, 71, 72, 73, 74, 75, 76, 77, 78, 79, 80, 81, 82, 83] (by decide +kernel) (by decide +kernel)
set_option maxRecDepth 20000 in
theorem gX10_gap_X5_addGap : GoodIn wsX10_gap (wsV RX10 139 RX5 yX5_addGap wsX5_addGap) := goodIn_app (goodIn_of _ (by decide +kernel)) ggX10_gap_X5_addGap
theorem dX10_gap_0 : decode cX10_gap 0 = .ok (.aload_n 0, 1) := by decide +kernel
theorem dX10_gap_1 : decode cX10_gap 1 = .ok (.getfield 10, 3) := by decide +kernel
theorem dX10_gap_4 : decode cX10_gap 4 = .ok (.iload_n 1, 1) := by decide +kernel
theorem dX10_gap_5 : decode cX10_gap 5 = .ok (.invokevirtual 125, 3) := by decide +kernel
theorem dX10_gap_8 : decode cX10_gap 8 = .ok (.istore_n 3, 1) := by decide +kernel
theorem dX10_gap_9 : decode cX10_gap 9 = .ok (.iload_n 2, 1) := by decide +kernel
theorem dX10_gap_10 : decode cX10_gap 10 = .ok (.ifCond .eq 37, 3) := by decide +kernel
theorem dX10_gap_13 : decode cX10_gap 13 = .ok (.iload_n 3, 1) := by decide +kernel
theorem dX10_gap_14 : decode cX10_gap 14 = .ok (.iconst (-1), 1) := by decide +kernel
theorem dX10_gap_15 : decode cX10_gap 15 = .ok (.if_icmp .ne 5, 3) := by decide +kernel
theorem dX10_gap_18 : decode cX10_gap 18 = .ok (.iconst (-1), 1) := by decide +kernel
theorem dX10_gap_19 : decode cX10_gap 19 = .ok (.ireturn, 1) := by decide +kernel
theorem dX10_gap_20 : decode cX10_gap 20 = .ok (.aload_n 0, 1) := by decide +kernel
theorem dX10_gap_21 : decode cX10_gap 21 = .ok (.getfield 36, 3) := by decide +kernel
theorem dX10_gap_24 : decode cX10_gap 24 = .ok (.aload_n 0, 1) := by decide +kernel
theorem dX10_gap_25 : decode cX10_gap 25 = .ok (.getfield 10, 3) := by decide +kernel
theorem dX10_gap_28 : decode cX10_gap 28 = .ok (.invokevirtual 129, 3) := by decide +kernel
theorem dX10_gap_31 : decode cX10_gap 31 = .ok (.aload_n 0, 1) := by decide +kernel
theorem dX10_gap_32 : decode cX10_gap 32 = .ok (.getfield 10, 3) := by decide +kernel
theorem dX10_gap_35 : decode cX10_gap 35 = .ok (.iload_n 3, 1) := by decide +kernel
theorem dX10_gap_36 : decode cX10_gap 36 = .ok (.invokevirtual 132, 3) := by decide +kernel
theorem dX10_gap_39 : decode cX10_gap 39 = .ok (.aload_n 0, 1) := by decide +kernel
theorem dX10_gap_40 : decode cX10_gap 40 = .ok (.getfield 10, 3) := by decide +kernel
theorem dX10_gap_43 : decode cX10_gap 43 = .ok (.getfield 122, 3) := by decide +kernel
theorem dX10_gap_46 : decode cX10_gap 46 = .ok (.ireturn, 1) := by decide +kernel
theorem dX10_gap_47 : decode cX10_gap 47 = .ok (.iload_n 1, 1) := by decide +kernel
theorem dX10_gap_48 : decode cX10_gap 48 = .ok (.invokestatic 135, 3) := by decide +kernel
theorem dX10_gap_51 : decode cX10_gap 51 = .ok (.ifCond .eq 19, 3) := by decide +kernel
theorem dX10_gap_54 : decode cX10_gap 54 = .ok (.iload_n 3, 1) := by decide +kernel
theorem dX10_gap_55 : decode cX10_gap 55 = .ok (.iconst (-1), 1) := by decide +kernel
theorem dX10_gap_56 : decode cX10_gap 56 = .ok (.if_icmp .ne 14, 3) := by decide +kernel
theorem dX10_gap_59 : decode cX10_gap 59 = .ok (.aload_n 0, 1) := by decide +kernel
theorem dX10_gap_60 : decode cX10_gap 60 = .ok (.getfield 10, 3) := by decide +kernel
theorem dX10_gap_63 : decode cX10_gap 63 = .ok (.getfield 122, 3) := by decide +kernel
theorem dX10_gap_66 : decode cX10_gap 66 = .ok (.iconst 5, 1) := by decide +kernel
theorem dX10_gap_67 : decode cX10_gap 67 = .ok (.if_icmp .lt 5, 3) := by decide +kernel
theorem dX10_gap_70 : decode cX10_gap 70 = .ok (.iconst (-1), 1) := by decide +kernel
theorem dX10_gap_71 : decode cX10_gap 71 = .ok (.ireturn, 1) := by decide +kernel
theorem dX10_gap_72 : decode cX10_gap 72 = .ok (.aload_n 0, 1) := by decide +kernel
theorem dX10_gap_73 : decode cX10_gap 73 = .ok (.getfield 36, 3) := by decide +kernel
theorem dX10_gap_76 : decode cX10_gap 76 = .ok (.aload_n 0, 1) := by decide +kernel
theorem dX10_gap_77 : decode cX10_gap 77 = .ok (.getfield 10, 3) := by decide +kernel
theorem dX10_gap_80 : decode cX10_gap 80 = .ok (.invokevirtual 129, 3) := by decide +kernel
theorem dX10_gap_83 : decode cX10_gap 83 = .ok (.aload_n 0, 1) := by decide +kernel
theorem dX10_gap_84 : decode cX10_gap 84 = .ok (.getfield 10, 3) := by decide +kernel
theorem dX10_gap_87 : decode cX10_gap 87 = .ok (.iload_n 1, 1) := by decide +kernel
theorem dX10_gap_88 : decode cX10_gap 88 = .ok (.invokevirtual 139, 3) := by decide +kernel
theorem dX10_gap_91 : decode cX10_gap 91 = .ok (.aload_n 0, 1) := by decide +kernel
theorem dX10_gap_92 : decode cX10_gap 92 = .ok (.getfield 10, 3) := by decide +kernel
theorem dX10_gap_95 : decode cX10_gap 95 = .ok (.getfield 122, 3) := by decide +kernel
theorem dX10_gap_98 : decode cX10_gap 98 = .ok (.ireturn, 1) := by decide +kernel
set_option maxRecDepth 20000 in
theorem ggX10_set_X10_isWithin : GoodIn wsX10_set wsX10_isWithin := goodIn_r _ [9] (by decide +kernel) (by decide +kernel)
set_option maxRecDepth 20000 in
theorem gX10_set_X10_isWithin : GoodIn wsX10_set (va_wsS RX10 142 yX10_isWithin wsX10_isWithin) := goodIn_app (goodIn_of _ (by decide +kernel)) ggX10_set_X10_isWithin
set_option maxRecDepth 20000 in
theorem ggX10_set_X4_save : GoodIn wsX10_set wsX4_save := goodIn_r _ [14, 15, 16, 17, 18, 19, 20, 21, 22, 23, 24, 25, 26, 27, 28, 29, 30, 31, 32, 33, 34, 35, 36, 37, 38, 39, 67, 68, 69, 54, 55, 56, 57, 58, 59, 60, 61, 62, 63, 64, 65, 66] (by decide +kernel) (by decide +kernel)
set_option maxRecDepth 20000 in
theorem gX10_set_X4_save : GoodIn wsX10_set (wsV RX10 129 RX4 yX4_save wsX4_save) := goodIn_app (goodIn_of _ (by decide +kernel)) ggX10_set_X4_save
theorem dX10_set_0 : decode cX10_set 0 = .ok (.iload_n 1, 1) := by decide +kernel
theorem dX10_set_1 : decode cX10_set 1 = .ok (.iconst 0, 1) := by decide +kernel
theorem dX10_set_2 : decode cX10_set 2 = .ok (.bipush 6, 2) := by decide +kernel
theorem dX10_set_4 : decode cX10_set 4 = .ok (.invokestatic 142, 3) := by decide +kernel
theorem dX10_set_7 : decode cX10_set 7 = .ok (.ifCond .eq 20, 3) := by decide +kernel
theorem dX10_set_10 : decode cX10_set 10 = .ok (.iload_n 2, 1) := by decide +kernel
theorem dX10_set_11 : decode cX10_set 11 = .ok (.getstatic 146, 3) := by decide +kernel
theorem dX10_set_14 : decode cX10_set 14 = .ok (.iload_n 1, 1) := by decide +kernel
theorem dX10_set_15 : decode cX10_set 15 = .ok (.iaload, 1) := by decide +kernel
theorem dX10_set_16 : decode cX10_set 16 = .ok (.getstatic 149, 3) := by decide +kernel
theorem dX10_set_19 : decode cX10_set 19 = .ok (.iload_n 1, 1) := by decide +kernel
theorem dX10_set_20 : decode cX10_set 20 = .ok (.iaload, 1) := by decide +kernel
theorem dX10_set_21 : decode cX10_set 21 = .ok (.invokestatic 142, 3) := by decide +kernel
theorem dX10_set_24 : decode cX10_set 24 = .ok (.ifCond .ne 5, 3) := by decide +kernel
theorem dX10_set_27 : decode cX10_set 27 = .ok (.iconst 0, 1) := by decide +kernel
theorem dX10_set_28 : decode cX10_set 28 = .ok (.ireturn, 1) := by decide +kernel
theorem dX10_set_29 : decode cX10_set 29 = .ok (.aload_n 0, 1) := by decide +kernel
theorem dX10_set_30 : decode cX10_set 30 = .ok (.getfield 10, 3) := by decide +kernel
theorem dX10_set_33 : decode cX10_set 33 = .ok (.getfield 152, 3) := by decide +kernel
theorem dX10_set_36 : decode cX10_set 36 = .ok (.iload_n 1, 1) := by decide +kernel
theorem dX10_set_37 : decode cX10_set 37 = .ok (.iaload, 1) := by decide +kernel
theorem dX10_set_38 : decode cX10_set 38 = .ok (.iload_n 2, 1) := by decide +kernel
theorem dX10_set_39 : decode cX10_set 39 = .ok (.if_icmp .ne 5, 3) := by decide +kernel
theorem dX10_set_42 : decode cX10_set 42 = .ok (.iconst 0, 1) := by decide +kernel
theorem dX10_set_43 : decode cX10_set 43 = .ok (.ireturn, 1) := by decide +kernel
theorem dX10_set_44 : decode cX10_set 44 = .ok (.aload_n 0, 1) := by decide +kernel
theorem dX10_set_45 : decode cX10_set 45 = .ok (.getfield 36, 3) := by decide +kernel
theorem dX10_set_48 : decode cX10_set 48 = .ok (.aload_n 0, 1) := by decide +kernel
theorem dX10_set_49 : decode cX10_set 49 = .ok (.getfield 10, 3) := by decide +kernel
theorem dX10_set_52 : decode cX10_set 52 = .ok (.invokevirtual 129, 3) := by decide +kernel
theorem dX10_set_55 : decode cX10_set 55 = .ok (.aload_n 0, 1) := by decide +kernel
theorem dX10_set_56 : decode cX10_set 56 = .ok (.getfield 10, 3) := by decide +kernel
theorem dX10_set_59 : decode cX10_set 59 = .ok (.getfield 152, 3) := by decide +kernel
theorem dX10_set_62 : decode cX10_set 62 = .ok (.iload_n 1, 1) := by decide +kernel
theorem dX10_set_63 : decode cX10_set 63 = .ok (.iload_n 2, 1) := by decide +kernel
theorem dX10_set_64 : decode cX10_set 64 = .ok (.iastore, 1) := by decide +kernel
theorem dX10_set_65 : decode cX10_set 65 = .ok (.iconst 1, 1) := by decide +kernel
theorem dX10_set_66 : decode cX10_set 66 = .ok (.ireturn, 1) := by decide +kernel
set_option maxRecDepth 20000 in
theorem ggX10_target_X10_isWithin : GoodIn wsX10_target wsX10_isWithin := goodIn_r _ [7] (by decide +kernel) (by decide +kernel)
set_option maxRecDepth 20000 in
theorem gX10_target_X10_isWithin : GoodIn wsX10_target (va_wsS RX10 142 yX10_isWithin wsX10_isWithin) := goodIn_app (goodIn_of _ (by decide +kernel)) ggX10_target_X10_isWithin
set_option maxRecDepth 20000 in
theorem ggX10_target_X10_isSpeed : GoodIn wsX10_target wsX10_isSpeed := goodIn_r _ [10, 4, 5, 6, 7] (by decide +kernel) (by decide +kernel)
set_option maxRecDepth 20000 in
theorem gX10_target_X10_isSpeed : GoodIn wsX10_target (va_wsS RX10 155 yX10_isSpeed wsX10_isSpeed) := goodIn_app (goodIn_of _ (by decide +kernel)) ggX10_target_X10_isSpeed
set_option maxRecDepth 20000 in
theorem ggX10_target_X4_save : GoodIn wsX10_target wsX4_save := goodIn_r _ [15, 16, 17, 18, 19, 20, 21, 22, 23, 24, 25, 26, 27, 28, 29, 30, 31, 32, 33, 34, 35, 36, 37, 38, 39, 40, 72, 73, 74, 59, 60, 61, 62, 63, 64, 65, 66, 67, 68, 69, 70, 71] (by decide +kernel) (by decide +kernel)
set_option maxRecDepth 20000 in
theorem gX10_target_X4_save : GoodIn wsX10_target (wsV RX10 129 RX4 yX4_save wsX4_save) := goodIn_app (goodIn_of _ (by decide +kernel)) ggX10_target_X4_save
set_option maxRecDepth 20000 in
theorem ggX10_target_X5_addTarget : GoodIn wsX10_target wsX5_addTarget := goodIn_r _ [44, 37, 30, 31, 32, 59, 60, 61, 62, 63, 64, 65, 66, 67, 68, 69, 70, 71] (by decide +kernel) (by decide +kernel)
set_option maxRecDepth 20000 in
theorem gX10_target_X5_addTarget : GoodIn wsX10_target (wsV RX10 161 RX5 yX5_addTarget wsX5_addTarget) := goodIn_app (goodIn_of _ (by decide +kernel)) ggX10_target_X5_addTarget
theorem dX10_target_0 : decode cX10_target 0 = .ok (.iload_n 1, 1) := by decide +kernel
theorem dX10_target_1 : decode cX10_target 1 = .ok (.iconst 0, 1) := by decide +kernel
theorem dX10_target_2 : decode cX10_target 2 = .ok (.sipush 2999, 3) := by decide +kernel
theorem dX10_target_5 : decode cX10_target 5 = .ok (.invokestatic 142, 3) := by decide +kernel
theorem dX10_target_8 : decode cX10_target 8 = .ok (.ifCond .eq 20, 3) := by decide +kernel
theorem dX10_target_11 : decode cX10_target 11 = .ok (.iload_n 2, 1) := by decide +kernel
theorem dX10_target_12 : decode cX10_target 12 = .ok (.invokestatic 155, 3) := by decide +kernel
theorem dX10_target_15 : decode cX10_target 15 = .ok (.ifCond .eq 13, 3) := by decide +kernel
theorem dX10_target_18 : decode cX10_target 18 = .ok (.iload_n 3, 1) := by decide +kernel
theorem dX10_target_19 : decode cX10_target 19 = .ok (.iconst 1, 1) := by decide +kernel
theorem dX10_target_20 : decode cX10_target 20 = .ok (.bipush 99, 2) := by decide +kernel
theorem dX10_target_22 : decode cX10_target 22 = .ok (.invokestatic 142, 3) := by decide +kernel
theorem dX10_target_25 : decode cX10_target 25 = .ok (.ifCond .ne 5, 3) := by decide +kernel
theorem dX10_target_28 : decode cX10_target 28 = .ok (.iconst (-1), 1) := by decide +kernel
theorem dX10_target_29 : decode cX10_target 29 = .ok (.ireturn, 1) := by decide +kernel
theorem dX10_target_30 : decode cX10_target 30 = .ok (.aload_n 0, 1) := by decide +kernel
theorem dX10_target_31 : decode cX10_target 31 = .ok (.getfield 10, 3) := by decide +kernel
theorem dX10_target_34 : decode cX10_target 34 = .ok (.getfield 158, 3) := by decide +kernel
theorem dX10_target_37 : decode cX10_target 37 = .ok (.bipush 8, 2) := by decide +kernel
theorem dX10_target_39 : decode cX10_target 39 = .ok (.if_icmp .lt 5, 3) := by decide +kernel
theorem dX10_target_42 : decode cX10_target 42 = .ok (.iconst (-1), 1) := by decide +kernel
theorem dX10_target_43 : decode cX10_target 43 = .ok (.ireturn, 1) := by decide +kernel
theorem dX10_target_44 : decode cX10_target 44 = .ok (.aload_n 0, 1) := by decide +kernel
theorem dX10_target_45 : decode cX10_target 45 = .ok (.getfield 36, 3) := by decide +kernel
theorem dX10_target_48 : decode cX10_target 48 = .ok (.aload_n 0, 1) := by decide +kernel
theorem dX10_target_49 : decode cX10_target 49 = .ok (.getfield 10, 3) := by decide +kernel
theorem dX10_target_52 : decode cX10_target 52 = .ok (.invokevirtual 129, 3) := by decide +kernel
theorem dX10_target_55 : decode cX10_target 55 = .ok (.aload_n 0, 1) := by decide +kernel
theorem dX10_target_56 : decode cX10_target 56 = .ok (.getfield 10, 3) := by decide +kernel
theorem dX10_target_59 : decode cX10_target 59 = .ok (.iload_n 1, 1) := by decide +kernel
theorem dX10_target_60 : decode cX10_target 60 = .ok (.iload_n 2, 1) := by decide +kernel
theorem dX10_target_61 : decode cX10_target 61 = .ok (.iload_n 3, 1) := by decide +kernel
theorem dX10_target_62 : decode cX10_target 62 = .ok (.invokevirtual 161, 3) := by decide +kernel
theorem dX10_target_65 : decode cX10_target 65 = .ok (.aload_n 0, 1) := by decide +kernel
theorem dX10_target_66 : decode cX10_target 66 = .ok (.getfield 10, 3) := by decide +kernel
theorem dX10_target_69 : decode cX10_target 69 = .ok (.getfield 158, 3) := by decide +kernel
theorem dX10_target_72 : decode cX10_target 72 = .ok (.iconst 1, 1) := by decide +kernel
theorem dX10_target_73 : decode cX10_target 73 = .ok (.isub, 1) := by decide +kernel
theorem dX10_target_74 : decode cX10_target 74 = .ok (.ireturn, 1) := by decide +kernel
set_option maxRecDepth 20000 in
theorem ggX10_leave_X5_hasTarget : GoodIn wsX10_leave wsX5_hasTarget := goodIn_r _ [8, 9, 57, 58, 59, 60, 61, 62, 63, 64, 65, 66, 67, 68, 69] (by decide +kernel) (by decide +kernel)
set_option maxRecDepth 20000 in
theorem gX10_leave_X5_hasTarget : GoodIn wsX10_leave (wsV RX10 165 RX5 yX5_hasTarget wsX5_hasTarget) := goodIn_app (goodIn_of _ (by decide +kernel)) ggX10_leave_X5_hasTarget
set_option maxRecDepth 20000 in
theorem ggX10_leave_X4_save : GoodIn wsX10_leave wsX4_save := goodIn_r _ [14, 15, 16, 17, 18, 19, 20, 7, 21, 22, 23, 24, 25, 26, 27, 28, 29, 30, 31, 32, 33, 34, 9, 35, 36, 37, 70, 71, 72, 57, 58, 59, 60, 61, 62, 63, 64, 65, 66, 67, 68, 69] (by decide +kernel) (by decide +kernel)
set_option maxRecDepth 20000 in
theorem gX10_leave_X4_save : GoodIn wsX10_leave (wsV RX10 129 RX4 yX4_save wsX4_save) := goodIn_app (goodIn_of _ (by decide +kernel)) ggX10_leave_X4_save
set_option maxRecDepth 20000 in
theorem ggX10_leave_X5_dropTarget : GoodIn wsX10_leave wsX5_dropTarget := goodIn_r _ [41, 9, 28, 29, 30, 42, 5, 6, 7, 8, 57, 58, 59, 60, 61, 62, 63, 64, 65, 66, 67, 68, 69] (by decide +kernel) (by decide +kernel)
set_option maxRecDepth 20000 in
theorem gX10_leave_X5_dropTarget : GoodIn wsX10_leave (wsV RX10 168 RX5 yX5_dropTarget wsX5_dropTarget) := goodIn_app (goodIn_of _ (by decide +kernel)) ggX10_leave_X5_dropTarget
theorem dX10_leave_0 : decode cX10_leave 0 = .ok (.aload_n 0, 1) := by decide +kernel
theorem dX10_leave_1 : decode cX10_leave 1 = .ok (.getfield 10, 3) := by decide +kernel
theorem dX10_leave_4 : decode cX10_leave 4 = .ok (.iload_n 1, 1) := by decide +kernel
theorem dX10_leave_5 : decode cX10_leave 5 = .ok (.invokevirtual 165, 3) := by decide +kernel
theorem dX10_leave_8 : decode cX10_leave 8 = .ok (.ifCond .ne 5, 3) := by decide +kernel
theorem dX10_leave_11 : decode cX10_leave 11 = .ok (.iconst (-1), 1) := by decide +kernel
theorem dX10_leave_12 : decode cX10_leave 12 = .ok (.ireturn, 1) := by decide +kernel
theorem dX10_leave_13 : decode cX10_leave 13 = .ok (.aload_n 0, 1) := by decide +kernel
theorem dX10_leave_14 : decode cX10_leave 14 = .ok (.getfield 36, 3) := by decide +kernel
theorem dX10_leave_17 : decode cX10_leave 17 = .ok (.aload_n 0, 1) := by decide +kernel
theorem dX10_leave_18 : decode cX10_leave 18 = .ok (.getfield 10, 3) := by decide +kernel
theorem dX10_leave_21 : decode cX10_leave 21 = .ok (.invokevirtual 129, 3) := by decide +kernel
theorem dX10_leave_24 : decode cX10_leave 24 = .ok (.aload_n 0, 1) := by decide +kernel
theorem dX10_leave_25 : decode cX10_leave 25 = .ok (.getfield 10, 3) := by decide +kernel
theorem dX10_leave_28 : decode cX10_leave 28 = .ok (.iload_n 1, 1) := by decide +kernel
theorem dX10_leave_29 : decode cX10_leave 29 = .ok (.invokevirtual 168, 3) := by decide +kernel
theorem dX10_leave_32 : decode cX10_leave 32 = .ok (.aload_n 0, 1) := by decide +kernel
theorem dX10_leave_33 : decode cX10_leave 33 = .ok (.getfield 10, 3) := by decide +kernel
theorem dX10_leave_36 : decode cX10_leave 36 = .ok (.getfield 158, 3) := by decide +kernel
theorem dX10_leave_39 : decode cX10_leave 39 = .ok (.ireturn, 1) := by decide +kernel
set_option maxRecDepth 20000 in
theorem ggX10_move_X10_isWithin : GoodIn wsX10_move wsX10_isWithin := goodIn_r _ [8] (by decide +kernel) (by decide +kernel)
set_option maxRecDepth 20000 in
theorem gX10_move_X10_isWithin : GoodIn wsX10_move (va_wsS RX10 142 yX10_isWithin wsX10_isWithin) := goodIn_app (goodIn_of _ (by decide +kernel)) ggX10_move_X10_isWithin
set_option maxRecDepth 20000 in
theorem ggX10_move_X4_save : GoodIn wsX10_move wsX4_save := goodIn_r _ [13, 14, 15, 16, 17, 18, 19, 20, 21, 22, 23, 24, 25, 26, 27, 28, 29, 30, 31, 32, 33, 34, 35, 36, 37, 38, 83, 84, 85, 70, 71, 72, 73, 74, 75, 76, 77, 78, 79, 80, 81, 82] (by decide +kernel) (by decide +kernel)
set_option maxRecDepth 20000 in
theorem gX10_move_X4_save : GoodIn wsX10_move (wsV RX10 129 RX4 yX4_save wsX4_save) := goodIn_app (goodIn_of _ (by decide +kernel)) ggX10_move_X4_save
set_option maxRecDepth 20000 in
theorem ggX10_move_X5_pass : GoodIn wsX10_move wsX5_pass := goodIn_r _ [42, 35, 43, 28, 37, 38, 44, 45, 46, 20, 47, 29, 6, 7, 8, 48, 49, 50, 51, 30, 52, 53, 54, 55, 70, 71, 72, 73, 74, 75, 76, 77, 78, 79, 80, 81, 82] (by decide +kernel) (by decide +kernel)
set_option maxRecDepth 20000 in
theorem gX10_move_X5_pass : GoodIn wsX10_move (wsV RX10 175 RX5 yX5_pass wsX5_pass) := goodIn_app (goodIn_of _ (by decide +kernel)) ggX10_move_X5_pass
theorem dX10_move_0 : decode cX10_move 0 = .ok (.iload_n 1, 1) := by decide +kernel
theorem dX10_move_1 : decode cX10_move 1 = .ok (.iconst 1, 1) := by decide +kernel
theorem dX10_move_2 : decode cX10_move 2 = .ok (.sipush 1000, 3) := by decide +kernel
theorem dX10_move_5 : decode cX10_move 5 = .ok (.invokestatic 142, 3) := by decide +kernel
theorem dX10_move_8 : decode cX10_move 8 = .ok (.ifCond .eq 17, 3) := by decide +kernel
theorem dX10_move_11 : decode cX10_move 11 = .ok (.aload_n 0, 1) := by decide +kernel
theorem dX10_move_12 : decode cX10_move 12 = .ok (.getfield 10, 3) := by decide +kernel
theorem dX10_move_15 : decode cX10_move 15 = .ok (.getfield 171, 3) := by decide +kernel
theorem dX10_move_18 : decode cX10_move 18 = .ok (.iload_n 1, 1) := by decide +kernel
theorem dX10_move_19 : decode cX10_move 19 = .ok (.iadd, 1) := by decide +kernel
theorem dX10_move_20 : decode cX10_move 20 = .ok (.ldc 174, 2) := by decide +kernel
theorem dX10_move_22 : decode cX10_move 22 = .ok (.if_icmp .le 5, 3) := by decide +kernel
theorem dX10_move_25 : decode cX10_move 25 = .ok (.iconst (-1), 1) := by decide +kernel
theorem dX10_move_26 : decode cX10_move 26 = .ok (.ireturn, 1) := by decide +kernel
theorem dX10_move_27 : decode cX10_move 27 = .ok (.aload_n 0, 1) := by decide +kernel
theorem dX10_move_28 : decode cX10_move 28 = .ok (.getfield 36, 3) := by decide +kernel
theorem dX10_move_31 : decode cX10_move 31 = .ok (.aload_n 0, 1) := by decide +kernel
theorem dX10_move_32 : decode cX10_move 32 = .ok (.getfield 10, 3) := by decide +kernel
theorem dX10_move_35 : decode cX10_move 35 = .ok (.invokevirtual 129, 3) := by decide +kernel
theorem dX10_move_38 : decode cX10_move 38 = .ok (.aload_n 0, 1) := by decide +kernel
theorem dX10_move_39 : decode cX10_move 39 = .ok (.getfield 10, 3) := by decide +kernel
theorem dX10_move_42 : decode cX10_move 42 = .ok (.iload_n 1, 1) := by decide +kernel
theorem dX10_move_43 : decode cX10_move 43 = .ok (.invokevirtual 175, 3) := by decide +kernel
theorem dX10_move_46 : decode cX10_move 46 = .ok (.ireturn, 1) := by decide +kernel
set_option maxRecDepth 20000 in
theorem ggX10_look_X4_save : GoodIn wsX10_look wsX4_save := goodIn_r _ [17, 18, 19, 20, 21, 22, 23, 24, 25, 26, 27, 28, 29, 30, 31, 32, 33, 34, 35, 36, 37, 38, 39, 40, 41, 42, 163, 164, 165, 144, 145, 146, 147, 148, 149, 150, 151, 152, 153, 154, 155, 156] (by decide +kernel) (by decide +kernel)
set_option maxRecDepth 20000 in
theorem gX10_look_X4_save : GoodIn wsX10_look (wsV RX10 129 RX4 yX4_save wsX4_save) := goodIn_app (goodIn_of _ (by decide +kernel)) ggX10_look_X4_save
set_option maxRecDepth 20000 in
theorem ggX10_look_X3_listen : GoodIn wsX10_look wsX3_listen := goodIn_r _ [47, 48, 49, 50, 51, 52, 46, 53, 54, 55, 56, 57, 58, 59, 60, 61, 62, 63, 64, 65, 66, 24, 67, 31, 33, 68, 69, 70, 71, 32, 72, 73, 74, 75, 76, 77, 78, 144, 145, 146, 147, 148, 149, 150, 151, 152, 153, 154, 155, 156, 157, 158, 159, 160, 161, 162] (by decide +kernel) (by decide +kernel)
set_option maxRecDepth 20000 in
theorem gX10_look_X3_listen : GoodIn wsX10_look (wsV RX10 184 RX3 yX3_listen wsX3_listen) := goodIn_app (goodIn_of _ (by decide +kernel)) ggX10_look_X3_listen
set_option maxRecDepth 20000 in
theorem ggX10_look_X3_paint : GoodIn wsX10_look wsX3_paint := goodIn_r _ [82, 83, 48, 84, 85, 86, 87, 88, 46, 89, 49, 90, 91, 92, 93, 94, 95, 96, 97, 55, 98, 99, 100, 101, 102, 103, 10, 104, 105, 106, 107, 108, 109, 110, 111, 112, 113, 114, 115, 116, 117, 72, 59, 73, 118, 119, 120, 121, 157, 158, 159, 160, 161, 162, 144, 145, 146, 147, 148, 149, 150, 151, 152, 153, 154, 155, 156] (by decide +kernel) (by decide +kernel)
set_option maxRecDepth 20000 in
theorem gX10_look_X3_paint : GoodIn wsX10_look (wsV RX10 187 RX3 yX3_paint wsX3_paint) := goodIn_app (goodIn_of _ (by decide +kernel)) ggX10_look_X3_paint
set_option maxRecDepth 20000 in
theorem ggX10_look_X5_addLook : GoodIn wsX10_look wsX5_addLook := goodIn_r _ [125, 40, 35, 41, 36, 37, 126, 127, 128, 24, 129, 27, 28, 29, 30, 144, 145, 146, 147, 148, 149, 150, 151, 152, 153, 154, 155, 156] (by decide +kernel) (by decide +kernel)
set_option maxRecDepth 20000 in
theorem gX10_look_X5_addLook : GoodIn wsX10_look (wsV RX10 202 RX5 yX5_addLook wsX5_addLook) := goodIn_app (goodIn_of _ (by decide +kernel)) ggX10_look_X5_addLook
theorem dX10_look_0 : decode cX10_look 0 = .ok (.aload_n 0, 1) := by decide +kernel
theorem dX10_look_1 : decode cX10_look 1 = .ok (.getfield 10, 3) := by decide +kernel
theorem dX10_look_4 : decode cX10_look 4 = .ok (.getfield 178, 3) := by decide +kernel
theorem dX10_look_7 : decode cX10_look 7 = .ok (.ifCond .le 32, 3) := by decide +kernel
theorem dX10_look_10 : decode cX10_look 10 = .ok (.aload_n 0, 1) := by decide +kernel
theorem dX10_look_11 : decode cX10_look 11 = .ok (.getfield 10, 3) := by decide +kernel
theorem dX10_look_14 : decode cX10_look 14 = .ok (.getfield 181, 3) := by decide +kernel
theorem dX10_look_17 : decode cX10_look 17 = .ok (.aload_n 0, 1) := by decide +kernel
theorem dX10_look_18 : decode cX10_look 18 = .ok (.getfield 10, 3) := by decide +kernel
theorem dX10_look_21 : decode cX10_look 21 = .ok (.getfield 178, 3) := by decide +kernel
theorem dX10_look_24 : decode cX10_look 24 = .ok (.iconst 1, 1) := by decide +kernel
theorem dX10_look_25 : decode cX10_look 25 = .ok (.isub, 1) := by decide +kernel
theorem dX10_look_26 : decode cX10_look 26 = .ok (.iaload, 1) := by decide +kernel
theorem dX10_look_27 : decode cX10_look 27 = .ok (.aload_n 0, 1) := by decide +kernel
theorem dX10_look_28 : decode cX10_look 28 = .ok (.getfield 10, 3) := by decide +kernel
theorem dX10_look_31 : decode cX10_look 31 = .ok (.getfield 171, 3) := by decide +kernel
theorem dX10_look_34 : decode cX10_look 34 = .ok (.if_icmp .ne 5, 3) := by decide +kernel
theorem dX10_look_37 : decode cX10_look 37 = .ok (.iconst (-1), 1) := by decide +kernel
theorem dX10_look_38 : decode cX10_look 38 = .ok (.ireturn, 1) := by decide +kernel
theorem dX10_look_39 : decode cX10_look 39 = .ok (.aload_n 0, 1) := by decide +kernel
theorem dX10_look_40 : decode cX10_look 40 = .ok (.getfield 36, 3) := by decide +kernel
theorem dX10_look_43 : decode cX10_look 43 = .ok (.aload_n 0, 1) := by decide +kernel
theorem dX10_look_44 : decode cX10_look 44 = .ok (.getfield 10, 3) := by decide +kernel
theorem dX10_look_47 : decode cX10_look 47 = .ok (.invokevirtual 129, 3) := by decide +kernel
theorem dX10_look_50 : decode cX10_look 50 = .ok (.aload_n 0, 1) := by decide +kernel
theorem dX10_look_51 : decode cX10_look 51 = .ok (.getfield 55, 3) := by decide +kernel
theorem dX10_look_54 : decode cX10_look 54 = .ok (.aload_n 0, 1) := by decide +kernel
theorem dX10_look_55 : decode cX10_look 55 = .ok (.getfield 10, 3) := by decide +kernel
theorem dX10_look_58 : decode cX10_look 58 = .ok (.invokevirtual 184, 3) := by decide +kernel
theorem dX10_look_61 : decode cX10_look 61 = .ok (.aload_n 0, 1) := by decide +kernel
theorem dX10_look_62 : decode cX10_look 62 = .ok (.getfield 55, 3) := by decide +kernel
theorem dX10_look_65 : decode cX10_look 65 = .ok (.aload_n 0, 1) := by decide +kernel
theorem dX10_look_66 : decode cX10_look 66 = .ok (.getfield 10, 3) := by decide +kernel
theorem dX10_look_69 : decode cX10_look 69 = .ok (.invokevirtual 187, 3) := by decide +kernel
theorem dX10_look_72 : decode cX10_look 72 = .ok (.aload_n 0, 1) := by decide +kernel
theorem dX10_look_73 : decode cX10_look 73 = .ok (.getfield 55, 3) := by decide +kernel
theorem dX10_look_76 : decode cX10_look 76 = .ok (.getfield 190, 3) := by decide +kernel
theorem dX10_look_79 : decode cX10_look 79 = .ok (.bipush 12, 2) := by decide +kernel
theorem dX10_look_81 : decode cX10_look 81 = .ok (.invokestatic 193, 3) := by decide +kernel
theorem dX10_look_84 : decode cX10_look 84 = .ok (.istore_n 1, 1) := by decide +kernel
theorem dX10_look_85 : decode cX10_look 85 = .ok (.aload_n 0, 1) := by decide +kernel
theorem dX10_look_86 : decode cX10_look 86 = .ok (.getfield 10, 3) := by decide +kernel
theorem dX10_look_89 : decode cX10_look 89 = .ok (.aload_n 0, 1) := by decide +kernel
theorem dX10_look_90 : decode cX10_look 90 = .ok (.getfield 55, 3) := by decide +kernel
theorem dX10_look_93 : decode cX10_look 93 = .ok (.getfield 199, 3) := by decide +kernel
theorem dX10_look_96 : decode cX10_look 96 = .ok (.iload_n 1, 1) := by decide +kernel
theorem dX10_look_97 : decode cX10_look 97 = .ok (.invokevirtual 202, 3) := by decide +kernel
theorem dX10_look_100 : decode cX10_look 100 = .ok (.iload_n 1, 1) := by decide +kernel
theorem dX10_look_101 : decode cX10_look 101 = .ok (.ireturn, 1) := by decide +kernel
set_option maxRecDepth 20000 in
theorem ggX10_undo_X4_restore : GoodIn wsX10_undo wsX4_restore := goodIn_r _ [8, 9, 10, 11, 12, 13, 14, 15, 16, 17, 18, 19, 20, 21, 22, 23, 24, 25, 26, 27, 28, 29, 30, 31, 32, 33, 48, 49, 50, 51, 52, 53, 54, 55, 56, 57, 58, 59, 60, 61, 62, 63] (by decide +kernel) (by decide +kernel)
set_option maxRecDepth 20000 in
theorem gX10_undo_X4_restore : GoodIn wsX10_undo (wsV RX10 207 RX4 yX4_restore wsX4_restore) := goodIn_app (goodIn_of _ (by decide +kernel)) ggX10_undo_X4_restore
theorem dX10_undo_0 : decode cX10_undo 0 = .ok (.aload_n 0, 1) := by decide +kernel
theorem dX10_undo_1 : decode cX10_undo 1 = .ok (.getfield 36, 3) := by decide +kernel
theorem dX10_undo_4 : decode cX10_undo 4 = .ok (.getfield 206, 3) := by decide +kernel
theorem dX10_undo_7 : decode cX10_undo 7 = .ok (.ifCond .ne 5, 3) := by decide +kernel
theorem dX10_undo_10 : decode cX10_undo 10 = .ok (.iconst (-1), 1) := by decide +kernel
theorem dX10_undo_11 : decode cX10_undo 11 = .ok (.ireturn, 1) := by decide +kernel
theorem dX10_undo_12 : decode cX10_undo 12 = .ok (.aload_n 0, 1) := by decide +kernel
theorem dX10_undo_13 : decode cX10_undo 13 = .ok (.getfield 36, 3) := by decide +kernel
theorem dX10_undo_16 : decode cX10_undo 16 = .ok (.aload_n 0, 1) := by decide +kernel
theorem dX10_undo_17 : decode cX10_undo 17 = .ok (.getfield 10, 3) := by decide +kernel
theorem dX10_undo_20 : decode cX10_undo 20 = .ok (.invokevirtual 207, 3) := by decide +kernel
theorem dX10_undo_23 : decode cX10_undo 23 = .ok (.aload_n 0, 1) := by decide +kernel
theorem dX10_undo_24 : decode cX10_undo 24 = .ok (.getfield 36, 3) := by decide +kernel
theorem dX10_undo_27 : decode cX10_undo 27 = .ok (.getfield 206, 3) := by decide +kernel
theorem dX10_undo_30 : decode cX10_undo 30 = .ok (.ireturn, 1) := by decide +kernel
set_option maxRecDepth 20000 in
theorem ggX10_count_X10_isWithin : GoodIn wsX10_count wsX10_isWithin := goodIn_r _ [15] (by decide +kernel) (by decide +kernel)
set_option maxRecDepth 20000 in
theorem gX10_count_X10_isWithin : GoodIn wsX10_count (va_wsS RX10 142 yX10_isWithin wsX10_isWithin) := goodIn_app (goodIn_of _ (by decide +kernel)) ggX10_count_X10_isWithin
set_option maxRecDepth 20000 in
theorem ggX10_count_X7_countDark : GoodIn wsX10_count wsX7_countDark := goodIn_r _ [19, 20, 21, 22, 18, 23, 24, 25, 26, 27, 28, 29, 30, 31, 32, 33, 34, 35, 14, 36, 37, 38, 39, 40, 41, 42, 43, 168, 169, 170, 171, 172, 173, 174, 175, 176, 177, 178, 179, 180] (by decide +kernel) (by decide +kernel)
set_option maxRecDepth 20000 in
theorem gX10_count_X7_countDark : GoodIn wsX10_count (va_wsS RX10 213 yX7_countDark wsX7_countDark) := goodIn_app (goodIn_of _ (by decide +kernel)) ggX10_count_X7_countDark
set_option maxRecDepth 20000 in
theorem ggX10_count_X10_countHeard : GoodIn wsX10_count wsX10_countHeard := goodIn_r _ [47, 48, 1, 49, 50, 51, 52, 53, 54, 55, 56, 57, 58, 59, 60, 61, 62, 63, 64, 13, 14, 15, 65, 66, 12, 67, 68, 69, 32, 70, 34, 71, 72, 73, 74, 75, 76, 35, 36, 77, 30, 31, 33, 78, 79, 80, 81, 82, 83, 84, 85, 86, 87, 88, 89, 90, 91, 92, 93, 94, 95, 96, 97, 98, 99, 100, 101, 102, 103, 104, 105, 106, 107, 108, 109, 110, 111, 112, 113, 114, 115, 116, 117, 38, 39, 40, 41, 42, 43, 118, 119, 120, 121, 122, 123, 124, 125, 126, 127, 128, 129, 130, 131, 132, 133, 134, 135, 136, 137, 138, 139, 140, 141, 142, 143, 144, 145, 146, 147, 148, 149, 150, 151, 152, 153, 154, 155, 156, 157, 158, 159, 160, 161, 162, 163, 164, 165, 166, 167, 188, 189, 190, 191, 192, 193, 168, 169, 170, 171, 172, 173, 174, 175, 176, 177, 178, 179, 180] (by decide +kernel) (by decide +kernel)
set_option maxRecDepth 20000 in
theorem gX10_count_X10_countHeard : GoodIn wsX10_count (wsV RX10 219 RX10 yX10_countHeard wsX10_countHeard) := goodIn_app (goodIn_of _ (by decide +kernel)) ggX10_count_X10_countHeard
theorem dX10_count_0 : decode cX10_count 0 = .ok (.iload_n 1, 1) := by decide +kernel
theorem dX10_count_1 : decode cX10_count 1 = .ok (.iconst 1, 1) := by decide +kernel
theorem dX10_count_2 : decode cX10_count 2 = .ok (.bipush 7, 2) := by decide +kernel
theorem dX10_count_4 : decode cX10_count 4 = .ok (.invokestatic 142, 3) := by decide +kernel
theorem dX10_count_7 : decode cX10_count 7 = .ok (.ifCond .eq 15, 3) := by decide +kernel
theorem dX10_count_10 : decode cX10_count 10 = .ok (.aload_n 0, 1) := by decide +kernel
theorem dX10_count_11 : decode cX10_count 11 = .ok (.getfield 10, 3) := by decide +kernel
theorem dX10_count_14 : decode cX10_count 14 = .ok (.getfield 152, 3) := by decide +kernel
theorem dX10_count_17 : decode cX10_count 17 = .ok (.iload_n 1, 1) := by decide +kernel
theorem dX10_count_18 : decode cX10_count 18 = .ok (.iconst 1, 1) := by decide +kernel
theorem dX10_count_19 : decode cX10_count 19 = .ok (.isub, 1) := by decide +kernel
theorem dX10_count_20 : decode cX10_count 20 = .ok (.iaload, 1) := by decide +kernel
theorem dX10_count_21 : decode cX10_count 21 = .ok (.ireturn, 1) := by decide +kernel
theorem dX10_count_22 : decode cX10_count 22 = .ok (.iload_n 1, 1) := by decide +kernel
theorem dX10_count_23 : decode cX10_count 23 = .ok (.tableswitch 157 0 19 #[93, 157, 157, 157, 157, 157, 157, 157, 101, 109, 117, 125, 157, 157, 157, 157, 157, 133, 141, 149], 93) := by decide +kernel
theorem dX10_count_116 : decode cX10_count 116 = .ok (.aload_n 0, 1) := by decide +kernel
theorem dX10_count_117 : decode cX10_count 117 = .ok (.getfield 10, 3) := by decide +kernel
theorem dX10_count_120 : decode cX10_count 120 = .ok (.getfield 122, 3) := by decide +kernel
theorem dX10_count_123 : decode cX10_count 123 = .ok (.ireturn, 1) := by decide +kernel
theorem dX10_count_124 : decode cX10_count 124 = .ok (.aload_n 0, 1) := by decide +kernel
theorem dX10_count_125 : decode cX10_count 125 = .ok (.getfield 10, 3) := by decide +kernel
theorem dX10_count_128 : decode cX10_count 128 = .ok (.getfield 158, 3) := by decide +kernel
theorem dX10_count_131 : decode cX10_count 131 = .ok (.ireturn, 1) := by decide +kernel
theorem dX10_count_132 : decode cX10_count 132 = .ok (.aload_n 0, 1) := by decide +kernel
theorem dX10_count_133 : decode cX10_count 133 = .ok (.getfield 10, 3) := by decide +kernel
theorem dX10_count_136 : decode cX10_count 136 = .ok (.getfield 171, 3) := by decide +kernel
theorem dX10_count_139 : decode cX10_count 139 = .ok (.ireturn, 1) := by decide +kernel
theorem dX10_count_140 : decode cX10_count 140 = .ok (.aload_n 0, 1) := by decide +kernel
theorem dX10_count_141 : decode cX10_count 141 = .ok (.getfield 10, 3) := by decide +kernel
theorem dX10_count_144 : decode cX10_count 144 = .ok (.getfield 210, 3) := by decide +kernel
theorem dX10_count_147 : decode cX10_count 147 = .ok (.ireturn, 1) := by decide +kernel
theorem dX10_count_148 : decode cX10_count 148 = .ok (.aload_n 0, 1) := by decide +kernel
theorem dX10_count_149 : decode cX10_count 149 = .ok (.getfield 10, 3) := by decide +kernel
theorem dX10_count_152 : decode cX10_count 152 = .ok (.invokestatic 213, 3) := by decide +kernel
theorem dX10_count_155 : decode cX10_count 155 = .ok (.ireturn, 1) := by decide +kernel
theorem dX10_count_156 : decode cX10_count 156 = .ok (.aload_n 0, 1) := by decide +kernel
theorem dX10_count_157 : decode cX10_count 157 = .ok (.getfield 36, 3) := by decide +kernel
theorem dX10_count_160 : decode cX10_count 160 = .ok (.getfield 206, 3) := by decide +kernel
theorem dX10_count_163 : decode cX10_count 163 = .ok (.ireturn, 1) := by decide +kernel
theorem dX10_count_164 : decode cX10_count 164 = .ok (.aload_n 0, 1) := by decide +kernel
theorem dX10_count_165 : decode cX10_count 165 = .ok (.getfield 22, 3) := by decide +kernel
theorem dX10_count_168 : decode cX10_count 168 = .ok (.getfield 95, 3) := by decide +kernel
theorem dX10_count_171 : decode cX10_count 171 = .ok (.ireturn, 1) := by decide +kernel
theorem dX10_count_172 : decode cX10_count 172 = .ok (.aload_n 0, 1) := by decide +kernel
theorem dX10_count_173 : decode cX10_count 173 = .ok (.getfield 10, 3) := by decide +kernel
theorem dX10_count_176 : decode cX10_count 176 = .ok (.getfield 178, 3) := by decide +kernel
theorem dX10_count_179 : decode cX10_count 179 = .ok (.ireturn, 1) := by decide +kernel
theorem dX10_count_180 : decode cX10_count 180 = .ok (.aload_n 0, 1) := by decide +kernel
theorem dX10_count_181 : decode cX10_count 181 = .ok (.iload_n 1, 1) := by decide +kernel
theorem dX10_count_182 : decode cX10_count 182 = .ok (.invokevirtual 219, 3) := by decide +kernel
theorem dX10_count_185 : decode cX10_count 185 = .ok (.ireturn, 1) := by decide +kernel
set_option maxRecDepth 20000 in
theorem ggX10_countHeard_X3_listen : GoodIn wsX10_countHeard wsX3_listen := goodIn_r _ [8, 9, 10, 11, 12, 13, 7, 14, 15, 16, 17, 18, 19, 20, 21, 22, 23, 24, 25, 26, 27, 28, 29, 30, 31, 32, 33, 34, 35, 36, 37, 38, 39, 40, 41, 42, 43, 145, 146, 147, 148, 149, 150, 151, 152, 153, 154, 155, 156, 157, 139, 140, 141, 142, 143, 144] (by decide +kernel) (by decide +kernel)
set_option maxRecDepth 20000 in
theorem gX10_countHeard_X3_listen : GoodIn wsX10_countHeard (wsV RX10 184 RX3 yX3_listen wsX3_listen) := goodIn_app (goodIn_of _ (by decide +kernel)) ggX10_countHeard_X3_listen
set_option maxRecDepth 20000 in
theorem ggX10_countHeard_X3_countAll : GoodIn wsX10_countHeard wsX3_countAll := goodIn_r _ [47, 9, 48, 49, 50, 7, 51, 10, 52, 53, 54, 55, 16, 56, 145, 146, 147, 148, 149, 150, 151, 152, 153, 154, 155, 156, 157, 139, 140, 141, 142, 143, 144] (by decide +kernel) (by decide +kernel)
set_option maxRecDepth 20000 in
theorem gX10_countHeard_X3_countAll : GoodIn wsX10_countHeard (wsV RX10 222 RX3 yX3_countAll wsX3_countAll) := goodIn_app (goodIn_of _ (by decide +kernel)) ggX10_countHeard_X3_countAll
set_option maxRecDepth 20000 in
theorem ggX10_countHeard_X3_countFound : GoodIn wsX10_countHeard wsX3_countFound := goodIn_r _ [60, 56, 61, 62, 63, 7, 64, 65, 9, 10, 66, 67, 68, 69, 52, 53, 54, 55, 16, 70, 71, 72, 73, 74, 75, 76, 77, 78, 79, 80, 81, 82, 83, 84, 85, 86, 87, 88, 89, 90, 91, 28, 92, 93, 32, 33, 34, 35, 36, 145, 146, 147, 148, 149, 150, 151, 152, 153, 154, 155, 156, 157, 139, 140, 141, 142, 143, 144] (by decide +kernel) (by decide +kernel)
set_option maxRecDepth 20000 in
theorem gX10_countHeard_X3_countFound : GoodIn wsX10_countHeard (wsV RX10 225 RX3 yX3_countFound wsX3_countFound) := goodIn_app (goodIn_of _ (by decide +kernel)) ggX10_countHeard_X3_countFound
set_option maxRecDepth 20000 in
theorem ggX10_countHeard_X3_missedTargets : GoodIn wsX10_countHeard wsX3_missedTargets := goodIn_r _ [97, 17, 98, 99, 100, 7, 101, 56, 43, 33, 34, 28, 35, 36, 102, 103, 104, 105, 106, 107, 108, 109, 9, 10, 37, 20, 38, 52, 53, 54, 55, 16, 82, 83, 84, 85, 86, 87, 88, 145, 146, 147, 148, 149, 150, 151, 152, 153, 154, 155, 156, 157, 139, 140, 141, 142, 143, 144] (by decide +kernel) (by decide +kernel)
set_option maxRecDepth 20000 in
theorem gX10_countHeard_X3_missedTargets : GoodIn wsX10_countHeard (wsV RX10 229 RX3 yX3_missedTargets wsX3_missedTargets) := goodIn_app (goodIn_of _ (by decide +kernel)) ggX10_countHeard_X3_missedTargets
set_option maxRecDepth 20000 in
theorem ggX10_countHeard_X3_paint : GoodIn wsX10_countHeard wsX3_paint := goodIn_r _ [113, 114, 9, 56, 65, 61, 62, 63, 7, 64, 10, 66, 67, 68, 69, 52, 53, 54, 55, 16, 70, 71, 72, 73, 74, 75, 76, 77, 82, 83, 84, 85, 86, 87, 88, 115, 116, 117, 118, 119, 120, 37, 20, 38, 121, 122, 123, 124, 139, 140, 141, 142, 143, 144, 145, 146, 147, 148, 149, 150, 151, 152, 153, 154, 155, 156, 157] (by decide +kernel) (by decide +kernel)
set_option maxRecDepth 20000 in
theorem gX10_countHeard_X3_paint : GoodIn wsX10_countHeard (wsV RX10 187 RX3 yX3_paint wsX3_paint) := goodIn_app (goodIn_of _ (by decide +kernel)) ggX10_countHeard_X3_paint
theorem dX10_countHeard_0 : decode cX10_countHeard 0 = .ok (.aload_n 0, 1) := by decide +kernel
theorem dX10_countHeard_1 : decode cX10_countHeard 1 = .ok (.getfield 55, 3) := by decide +kernel
theorem dX10_countHeard_4 : decode cX10_countHeard 4 = .ok (.aload_n 0, 1) := by decide +kernel
theorem dX10_countHeard_5 : decode cX10_countHeard 5 = .ok (.getfield 10, 3) := by decide +kernel
theorem dX10_countHeard_8 : decode cX10_countHeard 8 = .ok (.invokevirtual 184, 3) := by decide +kernel
theorem dX10_countHeard_11 : decode cX10_countHeard 11 = .ok (.iload_n 1, 1) := by decide +kernel
theorem dX10_countHeard_12 : decode cX10_countHeard 12 = .ok (.tableswitch 105 12 16 #[36, 48, 61, 74, 86], 36) := by decide +kernel
theorem dX10_countHeard_48 : decode cX10_countHeard 48 = .ok (.aload_n 0, 1) := by decide +kernel
theorem dX10_countHeard_49 : decode cX10_countHeard 49 = .ok (.getfield 55, 3) := by decide +kernel
theorem dX10_countHeard_52 : decode cX10_countHeard 52 = .ok (.aload_n 0, 1) := by decide +kernel
theorem dX10_countHeard_53 : decode cX10_countHeard 53 = .ok (.getfield 10, 3) := by decide +kernel
theorem dX10_countHeard_56 : decode cX10_countHeard 56 = .ok (.invokevirtual 222, 3) := by decide +kernel
theorem dX10_countHeard_59 : decode cX10_countHeard 59 = .ok (.ireturn, 1) := by decide +kernel
theorem dX10_countHeard_60 : decode cX10_countHeard 60 = .ok (.aload_n 0, 1) := by decide +kernel
theorem dX10_countHeard_61 : decode cX10_countHeard 61 = .ok (.getfield 55, 3) := by decide +kernel
theorem dX10_countHeard_64 : decode cX10_countHeard 64 = .ok (.aload_n 0, 1) := by decide +kernel
theorem dX10_countHeard_65 : decode cX10_countHeard 65 = .ok (.getfield 10, 3) := by decide +kernel
theorem dX10_countHeard_68 : decode cX10_countHeard 68 = .ok (.iconst 0, 1) := by decide +kernel
theorem dX10_countHeard_69 : decode cX10_countHeard 69 = .ok (.invokevirtual 225, 3) := by decide +kernel
theorem dX10_countHeard_72 : decode cX10_countHeard 72 = .ok (.ireturn, 1) := by decide +kernel
theorem dX10_countHeard_73 : decode cX10_countHeard 73 = .ok (.aload_n 0, 1) := by decide +kernel
theorem dX10_countHeard_74 : decode cX10_countHeard 74 = .ok (.getfield 55, 3) := by decide +kernel
theorem dX10_countHeard_77 : decode cX10_countHeard 77 = .ok (.aload_n 0, 1) := by decide +kernel
theorem dX10_countHeard_78 : decode cX10_countHeard 78 = .ok (.getfield 10, 3) := by decide +kernel
theorem dX10_countHeard_81 : decode cX10_countHeard 81 = .ok (.iconst 1, 1) := by decide +kernel
theorem dX10_countHeard_82 : decode cX10_countHeard 82 = .ok (.invokevirtual 225, 3) := by decide +kernel
theorem dX10_countHeard_85 : decode cX10_countHeard 85 = .ok (.ireturn, 1) := by decide +kernel
theorem dX10_countHeard_86 : decode cX10_countHeard 86 = .ok (.aload_n 0, 1) := by decide +kernel
theorem dX10_countHeard_87 : decode cX10_countHeard 87 = .ok (.getfield 55, 3) := by decide +kernel
theorem dX10_countHeard_90 : decode cX10_countHeard 90 = .ok (.aload_n 0, 1) := by decide +kernel
theorem dX10_countHeard_91 : decode cX10_countHeard 91 = .ok (.getfield 10, 3) := by decide +kernel
theorem dX10_countHeard_94 : decode cX10_countHeard 94 = .ok (.invokevirtual 229, 3) := by decide +kernel
theorem dX10_countHeard_97 : decode cX10_countHeard 97 = .ok (.ireturn, 1) := by decide +kernel
theorem dX10_countHeard_98 : decode cX10_countHeard 98 = .ok (.aload_n 0, 1) := by decide +kernel
theorem dX10_countHeard_99 : decode cX10_countHeard 99 = .ok (.getfield 55, 3) := by decide +kernel
theorem dX10_countHeard_102 : decode cX10_countHeard 102 = .ok (.aload_n 0, 1) := by decide +kernel
theorem dX10_countHeard_103 : decode cX10_countHeard 103 = .ok (.getfield 10, 3) := by decide +kernel
theorem dX10_countHeard_106 : decode cX10_countHeard 106 = .ok (.invokevirtual 187, 3) := by decide +kernel
theorem dX10_countHeard_109 : decode cX10_countHeard 109 = .ok (.aload_n 0, 1) := by decide +kernel
theorem dX10_countHeard_110 : decode cX10_countHeard 110 = .ok (.getfield 55, 3) := by decide +kernel
theorem dX10_countHeard_113 : decode cX10_countHeard 113 = .ok (.getfield 190, 3) := by decide +kernel
theorem dX10_countHeard_116 : decode cX10_countHeard 116 = .ok (.ireturn, 1) := by decide +kernel
theorem dX10_countHeard_117 : decode cX10_countHeard 117 = .ok (.iconst (-1), 1) := by decide +kernel
theorem dX10_countHeard_118 : decode cX10_countHeard 118 = .ok (.ireturn, 1) := by decide +kernel
set_option maxRecDepth 20000 in
theorem ggX10_gapOf_X5_hasGap : GoodIn wsX10_gapOf wsX5_hasGap := goodIn_r _ [10, 11, 86, 87, 88, 89, 90, 91, 92, 93, 94, 95, 96, 97, 98] (by decide +kernel) (by decide +kernel)
set_option maxRecDepth 20000 in
theorem gX10_gapOf_X5_hasGap : GoodIn wsX10_gapOf (wsV RX10 232 RX5 yX5_hasGap wsX5_hasGap) := goodIn_app (goodIn_of _ (by decide +kernel)) ggX10_gapOf_X5_hasGap
set_option maxRecDepth 20000 in
theorem ggX10_gapOf_X10_isWithin : GoodIn wsX10_gapOf wsX10_isWithin := goodIn_r _ [15] (by decide +kernel) (by decide +kernel)
set_option maxRecDepth 20000 in
theorem gX10_gapOf_X10_isWithin : GoodIn wsX10_gapOf (va_wsS RX10 142 yX10_isWithin wsX10_isWithin) := goodIn_app (goodIn_of _ (by decide +kernel)) ggX10_gapOf_X10_isWithin
set_option maxRecDepth 20000 in
theorem ggX10_gapOf_X3_listen : GoodIn wsX10_gapOf wsX3_listen := goodIn_r _ [20, 21, 22, 23, 24, 25, 19, 26, 27, 28, 29, 30, 13, 14, 15, 31, 32, 12, 33, 34, 35, 9, 36, 37, 38, 39, 40, 41, 42, 43, 44, 45, 46, 47, 48, 49, 50, 86, 87, 88, 89, 90, 91, 92, 93, 94, 95, 96, 97, 98, 99, 100, 101, 102, 103, 104] (by decide +kernel) (by decide +kernel)
set_option maxRecDepth 20000 in
theorem gX10_gapOf_X3_listen : GoodIn wsX10_gapOf (wsV RX10 184 RX3 yX3_listen wsX3_listen) := goodIn_app (goodIn_of _ (by decide +kernel)) ggX10_gapOf_X3_listen
set_option maxRecDepth 20000 in
theorem ggX10_gapOf_X3_countOfGap : GoodIn wsX10_gapOf wsX3_countOfGap := goodIn_r _ [54, 22, 55, 56, 57, 19, 58, 28, 59, 86, 87, 88, 89, 90, 91, 92, 93, 94, 95, 96, 97, 98, 99, 100, 101, 102, 103, 104] (by decide +kernel) (by decide +kernel)
set_option maxRecDepth 20000 in
theorem gX10_gapOf_X3_countOfGap : GoodIn wsX10_gapOf (wsV RX10 241 RX3 yX3_countOfGap wsX3_countOfGap) := goodIn_app (goodIn_of _ (by decide +kernel)) ggX10_gapOf_X3_countOfGap
set_option maxRecDepth 20000 in
theorem ggX10_gapOf_X5_targetsSeenBy : GoodIn wsX10_gapOf wsX5_targetsSeenBy := goodIn_r _ [63, 64, 65, 34, 35, 9, 36, 37, 38, 39, 40, 41, 42, 43, 44, 14, 45, 46, 47, 48, 49, 86, 87, 88, 89, 90, 91, 92, 93, 94, 95, 96, 97, 98] (by decide +kernel) (by decide +kernel)
set_option maxRecDepth 20000 in
theorem gX10_gapOf_X5_targetsSeenBy : GoodIn wsX10_gapOf (wsV RX10 245 RX5 yX5_targetsSeenBy wsX5_targetsSeenBy) := goodIn_app (goodIn_of _ (by decide +kernel)) ggX10_gapOf_X5_targetsSeenBy
set_option maxRecDepth 20000 in
theorem ggX10_gapOf_X7_countBlind : GoodIn wsX10_gapOf wsX7_countBlind := goodIn_r _ [69, 70, 71, 47, 48, 9, 49, 37, 44, 14, 45, 86, 87, 88, 89, 90, 91, 92, 93, 94, 95, 96, 97, 98] (by decide +kernel) (by decide +kernel)
set_option maxRecDepth 20000 in
theorem gX10_gapOf_X7_countBlind : GoodIn wsX10_gapOf (va_wsS RX10 248 yX7_countBlind wsX7_countBlind) := goodIn_app (goodIn_of _ (by decide +kernel)) ggX10_gapOf_X7_countBlind
theorem dX10_gapOf_0 : decode cX10_gapOf 0 = .ok (.aload_n 0, 1) := by decide +kernel
theorem dX10_gapOf_1 : decode cX10_gapOf 1 = .ok (.getfield 10, 3) := by decide +kernel
theorem dX10_gapOf_4 : decode cX10_gapOf 4 = .ok (.iload_n 1, 1) := by decide +kernel
theorem dX10_gapOf_5 : decode cX10_gapOf 5 = .ok (.invokevirtual 232, 3) := by decide +kernel
theorem dX10_gapOf_8 : decode cX10_gapOf 8 = .ok (.ifCond .eq 12, 3) := by decide +kernel
theorem dX10_gapOf_11 : decode cX10_gapOf 11 = .ok (.iload_n 2, 1) := by decide +kernel
theorem dX10_gapOf_12 : decode cX10_gapOf 12 = .ok (.iconst 0, 1) := by decide +kernel
theorem dX10_gapOf_13 : decode cX10_gapOf 13 = .ok (.iconst 3, 1) := by decide +kernel
theorem dX10_gapOf_14 : decode cX10_gapOf 14 = .ok (.invokestatic 142, 3) := by decide +kernel
theorem dX10_gapOf_17 : decode cX10_gapOf 17 = .ok (.ifCond .ne 11, 3) := by decide +kernel
theorem dX10_gapOf_20 : decode cX10_gapOf 20 = .ok (.new 235, 3) := by decide +kernel
theorem dX10_gapOf_23 : decode cX10_gapOf 23 = .ok (.dup, 1) := by decide +kernel
theorem dX10_gapOf_24 : decode cX10_gapOf 24 = .ok (.invokespecial 237, 3) := by decide +kernel
theorem dX10_gapOf_27 : decode cX10_gapOf 27 = .ok (.athrow, 1) := by decide +kernel
theorem dX10_gapOf_28 : decode cX10_gapOf 28 = .ok (.aload_n 0, 1) := by decide +kernel
theorem dX10_gapOf_29 : decode cX10_gapOf 29 = .ok (.getfield 10, 3) := by decide +kernel
theorem dX10_gapOf_32 : decode cX10_gapOf 32 = .ok (.getfield 238, 3) := by decide +kernel
theorem dX10_gapOf_35 : decode cX10_gapOf 35 = .ok (.iload_n 1, 1) := by decide +kernel
theorem dX10_gapOf_36 : decode cX10_gapOf 36 = .ok (.iaload, 1) := by decide +kernel
theorem dX10_gapOf_37 : decode cX10_gapOf 37 = .ok (.istore_n 3, 1) := by decide +kernel
theorem dX10_gapOf_38 : decode cX10_gapOf 38 = .ok (.iload_n 2, 1) := by decide +kernel
theorem dX10_gapOf_39 : decode cX10_gapOf 39 = .ok (.tableswitch 60 0 2 #[25, 27, 51], 25) := by decide +kernel
theorem dX10_gapOf_64 : decode cX10_gapOf 64 = .ok (.iload_n 3, 1) := by decide +kernel
theorem dX10_gapOf_65 : decode cX10_gapOf 65 = .ok (.ireturn, 1) := by decide +kernel
theorem dX10_gapOf_66 : decode cX10_gapOf 66 = .ok (.aload_n 0, 1) := by decide +kernel
theorem dX10_gapOf_67 : decode cX10_gapOf 67 = .ok (.getfield 55, 3) := by decide +kernel
theorem dX10_gapOf_70 : decode cX10_gapOf 70 = .ok (.aload_n 0, 1) := by decide +kernel
theorem dX10_gapOf_71 : decode cX10_gapOf 71 = .ok (.getfield 10, 3) := by decide +kernel
theorem dX10_gapOf_74 : decode cX10_gapOf 74 = .ok (.invokevirtual 184, 3) := by decide +kernel
theorem dX10_gapOf_77 : decode cX10_gapOf 77 = .ok (.aload_n 0, 1) := by decide +kernel
theorem dX10_gapOf_78 : decode cX10_gapOf 78 = .ok (.getfield 55, 3) := by decide +kernel
theorem dX10_gapOf_81 : decode cX10_gapOf 81 = .ok (.aload_n 0, 1) := by decide +kernel
theorem dX10_gapOf_82 : decode cX10_gapOf 82 = .ok (.getfield 10, 3) := by decide +kernel
theorem dX10_gapOf_85 : decode cX10_gapOf 85 = .ok (.iload_n 1, 1) := by decide +kernel
theorem dX10_gapOf_86 : decode cX10_gapOf 86 = .ok (.invokevirtual 241, 3) := by decide +kernel
theorem dX10_gapOf_89 : decode cX10_gapOf 89 = .ok (.ireturn, 1) := by decide +kernel
theorem dX10_gapOf_90 : decode cX10_gapOf 90 = .ok (.aload_n 0, 1) := by decide +kernel
theorem dX10_gapOf_91 : decode cX10_gapOf 91 = .ok (.getfield 10, 3) := by decide +kernel
theorem dX10_gapOf_94 : decode cX10_gapOf 94 = .ok (.iload_n 3, 1) := by decide +kernel
theorem dX10_gapOf_95 : decode cX10_gapOf 95 = .ok (.invokevirtual 245, 3) := by decide +kernel
theorem dX10_gapOf_98 : decode cX10_gapOf 98 = .ok (.ireturn, 1) := by decide +kernel
theorem dX10_gapOf_99 : decode cX10_gapOf 99 = .ok (.aload_n 0, 1) := by decide +kernel
theorem dX10_gapOf_100 : decode cX10_gapOf 100 = .ok (.getfield 10, 3) := by decide +kernel
theorem dX10_gapOf_103 : decode cX10_gapOf 103 = .ok (.iload_n 3, 1) := by decide +kernel
theorem dX10_gapOf_104 : decode cX10_gapOf 104 = .ok (.invokestatic 248, 3) := by decide +kernel
theorem dX10_gapOf_107 : decode cX10_gapOf 107 = .ok (.ireturn, 1) := by decide +kernel
set_option maxRecDepth 20000 in
theorem ggX10_targetOf_X5_hasTarget : GoodIn wsX10_targetOf wsX5_hasTarget := goodIn_r _ [12, 13, 106, 107, 108, 109, 110, 111, 112, 113, 114, 115, 116, 117, 118] (by decide +kernel) (by decide +kernel)
set_option maxRecDepth 20000 in
theorem gX10_targetOf_X5_hasTarget : GoodIn wsX10_targetOf (wsV RX10 165 RX5 yX5_hasTarget wsX5_hasTarget) := goodIn_app (goodIn_of _ (by decide +kernel)) ggX10_targetOf_X5_hasTarget
set_option maxRecDepth 20000 in
theorem ggX10_targetOf_X10_isWithin : GoodIn wsX10_targetOf wsX10_isWithin := goodIn_r _ [17] (by decide +kernel) (by decide +kernel)
set_option maxRecDepth 20000 in
theorem gX10_targetOf_X10_isWithin : GoodIn wsX10_targetOf (va_wsS RX10 142 yX10_isWithin wsX10_isWithin) := goodIn_app (goodIn_of _ (by decide +kernel)) ggX10_targetOf_X10_isWithin
set_option maxRecDepth 20000 in
theorem ggX10_targetOf_X5_rangeOf : GoodIn wsX10_targetOf wsX5_rangeOf := goodIn_r _ [21, 22, 106, 107, 108, 109, 110, 111, 112, 113, 114, 115, 116, 117, 118] (by decide +kernel) (by decide +kernel)
set_option maxRecDepth 20000 in
theorem gX10_targetOf_X5_rangeOf : GoodIn wsX10_targetOf (wsV RX10 251 RX5 yX5_rangeOf wsX5_rangeOf) := goodIn_app (goodIn_of _ (by decide +kernel)) ggX10_targetOf_X5_rangeOf
set_option maxRecDepth 20000 in
theorem ggX10_targetOf_X5_gapsThatSee : GoodIn wsX10_targetOf wsX5_gapsThatSee := goodIn_r _ [26, 27, 28, 29, 30, 31, 11, 32, 33, 34, 35, 19, 20, 21, 22, 36, 16, 37, 38, 39, 40, 41, 106, 107, 108, 109, 110, 111, 112, 113, 114, 115, 116, 117, 118] (by decide +kernel) (by decide +kernel)
set_option maxRecDepth 20000 in
theorem gX10_targetOf_X5_gapsThatSee : GoodIn wsX10_targetOf (wsV RX10 263 RX5 yX5_gapsThatSee wsX5_gapsThatSee) := goodIn_app (goodIn_of _ (by decide +kernel)) ggX10_targetOf_X5_gapsThatSee
set_option maxRecDepth 20000 in
theorem ggX10_targetOf_X7_blindGaps : GoodIn wsX10_targetOf wsX7_blindGaps := goodIn_r _ [45, 46, 47, 48, 39, 40, 11, 41, 33, 36, 16, 37, 106, 107, 108, 109, 110, 111, 112, 113, 114, 115, 116, 117, 118] (by decide +kernel) (by decide +kernel)
set_option maxRecDepth 20000 in
theorem gX10_targetOf_X7_blindGaps : GoodIn wsX10_targetOf (va_wsS RX10 266 yX7_blindGaps wsX7_blindGaps) := goodIn_app (goodIn_of _ (by decide +kernel)) ggX10_targetOf_X7_blindGaps
set_option maxRecDepth 20000 in
theorem ggX10_targetOf_X3_listen : GoodIn wsX10_targetOf wsX3_listen := goodIn_r _ [53, 54, 55, 56, 57, 58, 52, 59, 60, 61, 62, 63, 15, 16, 17, 64, 65, 14, 66, 30, 31, 11, 32, 33, 34, 35, 19, 20, 21, 22, 36, 37, 38, 39, 40, 41, 67, 106, 107, 108, 109, 110, 111, 112, 113, 114, 115, 116, 117, 118, 119, 120, 121, 122, 123, 124] (by decide +kernel) (by decide +kernel)
set_option maxRecDepth 20000 in
theorem gX10_targetOf_X3_listen : GoodIn wsX10_targetOf (wsV RX10 184 RX3 yX3_listen wsX3_listen) := goodIn_app (goodIn_of _ (by decide +kernel)) ggX10_targetOf_X3_listen
set_option maxRecDepth 20000 in
theorem ggX10_targetOf_X3_standingOf : GoodIn wsX10_targetOf wsX3_standingOf := goodIn_r _ [71, 72, 67, 19, 20, 11, 21, 22, 73, 74, 75, 52, 76, 77, 78, 79, 80, 54, 55, 36, 16, 37, 81, 82, 83, 84, 61, 85, 86, 87, 88, 89, 90, 91, 106, 107, 108, 109, 110, 111, 112, 113, 114, 115, 116, 117, 118, 119, 120, 121, 122, 123, 124] (by decide +kernel) (by decide +kernel)
set_option maxRecDepth 20000 in
theorem gX10_targetOf_X3_standingOf : GoodIn wsX10_targetOf (wsV RX10 269 RX3 yX3_standingOf wsX3_standingOf) := goodIn_app (goodIn_of _ (by decide +kernel)) ggX10_targetOf_X3_standingOf
theorem dX10_targetOf_0 : decode cX10_targetOf 0 = .ok (.aload_n 0, 1) := by decide +kernel
theorem dX10_targetOf_1 : decode cX10_targetOf 1 = .ok (.getfield 10, 3) := by decide +kernel
theorem dX10_targetOf_4 : decode cX10_targetOf 4 = .ok (.iload_n 1, 1) := by decide +kernel
theorem dX10_targetOf_5 : decode cX10_targetOf 5 = .ok (.invokevirtual 165, 3) := by decide +kernel
theorem dX10_targetOf_8 : decode cX10_targetOf 8 = .ok (.ifCond .eq 13, 3) := by decide +kernel
theorem dX10_targetOf_11 : decode cX10_targetOf 11 = .ok (.iload_n 2, 1) := by decide +kernel
theorem dX10_targetOf_12 : decode cX10_targetOf 12 = .ok (.iconst 0, 1) := by decide +kernel
theorem dX10_targetOf_13 : decode cX10_targetOf 13 = .ok (.bipush 6, 2) := by decide +kernel
theorem dX10_targetOf_15 : decode cX10_targetOf 15 = .ok (.invokestatic 142, 3) := by decide +kernel
theorem dX10_targetOf_18 : decode cX10_targetOf 18 = .ok (.ifCond .ne 11, 3) := by decide +kernel
theorem dX10_targetOf_21 : decode cX10_targetOf 21 = .ok (.new 235, 3) := by decide +kernel
theorem dX10_targetOf_24 : decode cX10_targetOf 24 = .ok (.dup, 1) := by decide +kernel
theorem dX10_targetOf_25 : decode cX10_targetOf 25 = .ok (.invokespecial 237, 3) := by decide +kernel
theorem dX10_targetOf_28 : decode cX10_targetOf 28 = .ok (.athrow, 1) := by decide +kernel
theorem dX10_targetOf_29 : decode cX10_targetOf 29 = .ok (.iload_n 2, 1) := by decide +kernel
theorem dX10_targetOf_30 : decode cX10_targetOf 30 = .ok (.tableswitch 103 0 5 #[38, 47, 57, 67, 77, 86], 38) := by decide +kernel
theorem dX10_targetOf_68 : decode cX10_targetOf 68 = .ok (.aload_n 0, 1) := by decide +kernel
theorem dX10_targetOf_69 : decode cX10_targetOf 69 = .ok (.getfield 10, 3) := by decide +kernel
theorem dX10_targetOf_72 : decode cX10_targetOf 72 = .ok (.iload_n 1, 1) := by decide +kernel
theorem dX10_targetOf_73 : decode cX10_targetOf 73 = .ok (.invokevirtual 251, 3) := by decide +kernel
theorem dX10_targetOf_76 : decode cX10_targetOf 76 = .ok (.ireturn, 1) := by decide +kernel
theorem dX10_targetOf_77 : decode cX10_targetOf 77 = .ok (.aload_n 0, 1) := by decide +kernel
theorem dX10_targetOf_78 : decode cX10_targetOf 78 = .ok (.getfield 10, 3) := by decide +kernel
theorem dX10_targetOf_81 : decode cX10_targetOf 81 = .ok (.getfield 254, 3) := by decide +kernel
theorem dX10_targetOf_84 : decode cX10_targetOf 84 = .ok (.iload_n 1, 1) := by decide +kernel
theorem dX10_targetOf_85 : decode cX10_targetOf 85 = .ok (.iaload, 1) := by decide +kernel
theorem dX10_targetOf_86 : decode cX10_targetOf 86 = .ok (.ireturn, 1) := by decide +kernel
theorem dX10_targetOf_87 : decode cX10_targetOf 87 = .ok (.aload_n 0, 1) := by decide +kernel
theorem dX10_targetOf_88 : decode cX10_targetOf 88 = .ok (.getfield 10, 3) := by decide +kernel
theorem dX10_targetOf_91 : decode cX10_targetOf 91 = .ok (.getfield 257, 3) := by decide +kernel
theorem dX10_targetOf_94 : decode cX10_targetOf 94 = .ok (.iload_n 1, 1) := by decide +kernel
theorem dX10_targetOf_95 : decode cX10_targetOf 95 = .ok (.iaload, 1) := by decide +kernel
theorem dX10_targetOf_96 : decode cX10_targetOf 96 = .ok (.ireturn, 1) := by decide +kernel
theorem dX10_targetOf_97 : decode cX10_targetOf 97 = .ok (.aload_n 0, 1) := by decide +kernel
theorem dX10_targetOf_98 : decode cX10_targetOf 98 = .ok (.getfield 10, 3) := by decide +kernel
theorem dX10_targetOf_101 : decode cX10_targetOf 101 = .ok (.getfield 260, 3) := by decide +kernel
theorem dX10_targetOf_104 : decode cX10_targetOf 104 = .ok (.iload_n 1, 1) := by decide +kernel
theorem dX10_targetOf_105 : decode cX10_targetOf 105 = .ok (.iaload, 1) := by decide +kernel
theorem dX10_targetOf_106 : decode cX10_targetOf 106 = .ok (.ireturn, 1) := by decide +kernel
theorem dX10_targetOf_107 : decode cX10_targetOf 107 = .ok (.aload_n 0, 1) := by decide +kernel
theorem dX10_targetOf_108 : decode cX10_targetOf 108 = .ok (.getfield 10, 3) := by decide +kernel
theorem dX10_targetOf_111 : decode cX10_targetOf 111 = .ok (.iload_n 1, 1) := by decide +kernel
theorem dX10_targetOf_112 : decode cX10_targetOf 112 = .ok (.invokevirtual 263, 3) := by decide +kernel
theorem dX10_targetOf_115 : decode cX10_targetOf 115 = .ok (.ireturn, 1) := by decide +kernel
theorem dX10_targetOf_116 : decode cX10_targetOf 116 = .ok (.aload_n 0, 1) := by decide +kernel
theorem dX10_targetOf_117 : decode cX10_targetOf 117 = .ok (.getfield 10, 3) := by decide +kernel
theorem dX10_targetOf_120 : decode cX10_targetOf 120 = .ok (.aload_n 0, 1) := by decide +kernel
theorem dX10_targetOf_121 : decode cX10_targetOf 121 = .ok (.getfield 10, 3) := by decide +kernel
theorem dX10_targetOf_124 : decode cX10_targetOf 124 = .ok (.getfield 257, 3) := by decide +kernel
theorem dX10_targetOf_127 : decode cX10_targetOf 127 = .ok (.iload_n 1, 1) := by decide +kernel
theorem dX10_targetOf_128 : decode cX10_targetOf 128 = .ok (.iaload, 1) := by decide +kernel
theorem dX10_targetOf_129 : decode cX10_targetOf 129 = .ok (.invokestatic 266, 3) := by decide +kernel
theorem dX10_targetOf_132 : decode cX10_targetOf 132 = .ok (.ireturn, 1) := by decide +kernel
theorem dX10_targetOf_133 : decode cX10_targetOf 133 = .ok (.aload_n 0, 1) := by decide +kernel
theorem dX10_targetOf_134 : decode cX10_targetOf 134 = .ok (.getfield 55, 3) := by decide +kernel
theorem dX10_targetOf_137 : decode cX10_targetOf 137 = .ok (.aload_n 0, 1) := by decide +kernel
theorem dX10_targetOf_138 : decode cX10_targetOf 138 = .ok (.getfield 10, 3) := by decide +kernel
theorem dX10_targetOf_141 : decode cX10_targetOf 141 = .ok (.invokevirtual 184, 3) := by decide +kernel
theorem dX10_targetOf_144 : decode cX10_targetOf 144 = .ok (.aload_n 0, 1) := by decide +kernel
theorem dX10_targetOf_145 : decode cX10_targetOf 145 = .ok (.getfield 55, 3) := by decide +kernel
theorem dX10_targetOf_148 : decode cX10_targetOf 148 = .ok (.aload_n 0, 1) := by decide +kernel
theorem dX10_targetOf_149 : decode cX10_targetOf 149 = .ok (.getfield 10, 3) := by decide +kernel
theorem dX10_targetOf_152 : decode cX10_targetOf 152 = .ok (.iload_n 1, 1) := by decide +kernel
theorem dX10_targetOf_153 : decode cX10_targetOf 153 = .ok (.invokevirtual 269, 3) := by decide +kernel
theorem dX10_targetOf_156 : decode cX10_targetOf 156 = .ok (.ireturn, 1) := by decide +kernel
set_option maxRecDepth 20000 in
theorem ggX10_blind_X10_isSpeed : GoodIn wsX10_blind wsX10_isSpeed := goodIn_r _ [5, 6, 7, 4, 8] (by decide +kernel) (by decide +kernel)
set_option maxRecDepth 20000 in
theorem gX10_blind_X10_isSpeed : GoodIn wsX10_blind (va_wsS RX10 155 yX10_isSpeed wsX10_isSpeed) := goodIn_app (goodIn_of _ (by decide +kernel)) ggX10_blind_X10_isSpeed
set_option maxRecDepth 20000 in
theorem ggX10_blind_X7_blindGaps : GoodIn wsX10_blind wsX7_blindGaps := goodIn_r _ [12, 13, 14, 15, 16, 17, 18, 19, 20, 21, 4, 22, 37, 38, 39, 40, 41, 42, 43, 44, 45, 46, 47, 48, 49] (by decide +kernel) (by decide +kernel)
set_option maxRecDepth 20000 in
theorem gX10_blind_X7_blindGaps : GoodIn wsX10_blind (va_wsS RX10 266 yX7_blindGaps wsX7_blindGaps) := goodIn_app (goodIn_of _ (by decide +kernel)) ggX10_blind_X7_blindGaps
theorem dX10_blind_0 : decode cX10_blind 0 = .ok (.iload_n 1, 1) := by decide +kernel
theorem dX10_blind_1 : decode cX10_blind 1 = .ok (.invokestatic 155, 3) := by decide +kernel
theorem dX10_blind_4 : decode cX10_blind 4 = .ok (.ifCond .eq 14, 3) := by decide +kernel
theorem dX10_blind_7 : decode cX10_blind 7 = .ok (.aload_n 0, 1) := by decide +kernel
theorem dX10_blind_8 : decode cX10_blind 8 = .ok (.getfield 10, 3) := by decide +kernel
theorem dX10_blind_11 : decode cX10_blind 11 = .ok (.iload_n 1, 1) := by decide +kernel
theorem dX10_blind_12 : decode cX10_blind 12 = .ok (.invokestatic 266, 3) := by decide +kernel
theorem dX10_blind_15 : decode cX10_blind 15 = .ok (.goto 4, 3) := by decide +kernel
theorem dX10_blind_18 : decode cX10_blind 18 = .ok (.iconst (-1), 1) := by decide +kernel
theorem dX10_blind_19 : decode cX10_blind 19 = .ok (.ireturn, 1) := by decide +kernel
set_option maxRecDepth 20000 in
theorem ggX10_doppler_X10_isSpeed : GoodIn wsX10_doppler wsX10_isSpeed := goodIn_r _ [7, 8, 9, 6, 10] (by decide +kernel) (by decide +kernel)
set_option maxRecDepth 20000 in
theorem gX10_doppler_X10_isSpeed : GoodIn wsX10_doppler (va_wsS RX10 155 yX10_isSpeed wsX10_isSpeed) := goodIn_app (goodIn_of _ (by decide +kernel)) ggX10_doppler_X10_isSpeed
set_option maxRecDepth 20000 in
theorem ggX10_doppler_X5_hasGap : GoodIn wsX10_doppler wsX5_hasGap := goodIn_r _ [15, 16, 34, 35, 36, 37, 38, 39, 40, 41, 42, 43, 44, 45, 46] (by decide +kernel) (by decide +kernel)
set_option maxRecDepth 20000 in
theorem gX10_doppler_X5_hasGap : GoodIn wsX10_doppler (wsV RX10 232 RX5 yX5_hasGap wsX5_hasGap) := goodIn_app (goodIn_of _ (by decide +kernel)) ggX10_doppler_X5_hasGap
set_option maxRecDepth 20000 in
theorem ggX10_doppler_X10_rest : GoodIn wsX10_doppler wsX10_rest := goodIn_r _ [19] (by decide +kernel) (by decide +kernel)
set_option maxRecDepth 20000 in
theorem gX10_doppler_X10_rest : GoodIn wsX10_doppler (va_wsS RX10 272 yX10_rest wsX10_rest) := goodIn_app (goodIn_of _ (by decide +kernel)) ggX10_doppler_X10_rest
theorem dX10_doppler_0 : decode cX10_doppler 0 = .ok (.iload_n 1, 1) := by decide +kernel
theorem dX10_doppler_1 : decode cX10_doppler 1 = .ok (.invokestatic 155, 3) := by decide +kernel
theorem dX10_doppler_4 : decode cX10_doppler 4 = .ok (.ifCond .eq 40, 3) := by decide +kernel
theorem dX10_doppler_7 : decode cX10_doppler 7 = .ok (.aload_n 0, 1) := by decide +kernel
theorem dX10_doppler_8 : decode cX10_doppler 8 = .ok (.getfield 10, 3) := by decide +kernel
theorem dX10_doppler_11 : decode cX10_doppler 11 = .ok (.iload_n 2, 1) := by decide +kernel
theorem dX10_doppler_12 : decode cX10_doppler 12 = .ok (.invokevirtual 232, 3) := by decide +kernel
theorem dX10_doppler_15 : decode cX10_doppler 15 = .ok (.ifCond .eq 29, 3) := by decide +kernel
theorem dX10_doppler_18 : decode cX10_doppler 18 = .ok (.iload_n 1, 1) := by decide +kernel
theorem dX10_doppler_19 : decode cX10_doppler 19 = .ok (.aload_n 0, 1) := by decide +kernel
theorem dX10_doppler_20 : decode cX10_doppler 20 = .ok (.getfield 10, 3) := by decide +kernel
theorem dX10_doppler_23 : decode cX10_doppler 23 = .ok (.getfield 238, 3) := by decide +kernel
theorem dX10_doppler_26 : decode cX10_doppler 26 = .ok (.iload_n 2, 1) := by decide +kernel
theorem dX10_doppler_27 : decode cX10_doppler 27 = .ok (.iaload, 1) := by decide +kernel
theorem dX10_doppler_28 : decode cX10_doppler 28 = .ok (.imul, 1) := by decide +kernel
theorem dX10_doppler_29 : decode cX10_doppler 29 = .ok (.aload_n 0, 1) := by decide +kernel
theorem dX10_doppler_30 : decode cX10_doppler 30 = .ok (.getfield 10, 3) := by decide +kernel
theorem dX10_doppler_33 : decode cX10_doppler 33 = .ok (.getfield 152, 3) := by decide +kernel
theorem dX10_doppler_36 : decode cX10_doppler 36 = .ok (.iconst 0, 1) := by decide +kernel
theorem dX10_doppler_37 : decode cX10_doppler 37 = .ok (.iaload, 1) := by decide +kernel
theorem dX10_doppler_38 : decode cX10_doppler 38 = .ok (.invokestatic 272, 3) := by decide +kernel
theorem dX10_doppler_41 : decode cX10_doppler 41 = .ok (.goto 4, 3) := by decide +kernel
theorem dX10_doppler_44 : decode cX10_doppler 44 = .ok (.iconst (-1), 1) := by decide +kernel
theorem dX10_doppler_45 : decode cX10_doppler 45 = .ok (.ireturn, 1) := by decide +kernel
set_option maxRecDepth 20000 in
theorem ggX10_dark_X7_darkAt : GoodIn wsX10_dark wsX7_darkAt := goodIn_r _ [5, 6, 7, 8, 4, 9, 10, 11, 12, 13, 14, 15, 16, 17, 18, 19, 20, 21, 22, 23, 24, 25, 26, 27, 28, 29, 30, 45, 46, 47, 48, 49, 50, 51, 52, 53, 54, 55, 56, 57] (by decide +kernel) (by decide +kernel)
set_option maxRecDepth 20000 in
theorem gX10_dark_X7_darkAt : GoodIn wsX10_dark (va_wsS RX10 275 yX7_darkAt wsX7_darkAt) := goodIn_app (goodIn_of _ (by decide +kernel)) ggX10_dark_X7_darkAt
theorem dX10_dark_0 : decode cX10_dark 0 = .ok (.iload_n 1, 1) := by decide +kernel
theorem dX10_dark_1 : decode cX10_dark 1 = .ok (.ifCond .lt 14, 3) := by decide +kernel
theorem dX10_dark_4 : decode cX10_dark 4 = .ok (.aload_n 0, 1) := by decide +kernel
theorem dX10_dark_5 : decode cX10_dark 5 = .ok (.getfield 10, 3) := by decide +kernel
theorem dX10_dark_8 : decode cX10_dark 8 = .ok (.iload_n 1, 1) := by decide +kernel
theorem dX10_dark_9 : decode cX10_dark 9 = .ok (.invokestatic 275, 3) := by decide +kernel
theorem dX10_dark_12 : decode cX10_dark 12 = .ok (.goto 4, 3) := by decide +kernel
theorem dX10_dark_15 : decode cX10_dark 15 = .ok (.iconst (-1), 1) := by decide +kernel
theorem dX10_dark_16 : decode cX10_dark 16 = .ok (.ireturn, 1) := by decide +kernel
set_option maxRecDepth 20000 in
theorem ggX10_period_X7_leastUnshifted : GoodIn wsX10_period wsX7_leastUnshifted := goodIn_r _ [5, 6, 7, 8, 9, 10, 11, 26, 27, 28, 29, 30, 31, 32, 33, 34, 35, 36, 37, 38] (by decide +kernel) (by decide +kernel)
set_option maxRecDepth 20000 in
theorem gX10_period_X7_leastUnshifted : GoodIn wsX10_period (va_wsS RX10 278 yX7_leastUnshifted wsX7_leastUnshifted) := goodIn_app (goodIn_of _ (by decide +kernel)) ggX10_period_X7_leastUnshifted
theorem dX10_period_0 : decode cX10_period 0 = .ok (.aload_n 0, 1) := by decide +kernel
theorem dX10_period_1 : decode cX10_period 1 = .ok (.getfield 10, 3) := by decide +kernel
theorem dX10_period_4 : decode cX10_period 4 = .ok (.invokestatic 278, 3) := by decide +kernel
theorem dX10_period_7 : decode cX10_period 7 = .ok (.ireturn, 1) := by decide +kernel
set_option maxRecDepth 20000 in
theorem ggX10_reach_X10_isWithin : GoodIn wsX10_reach wsX10_isWithin := goodIn_r _ [8] (by decide +kernel) (by decide +kernel)
set_option maxRecDepth 20000 in
theorem gX10_reach_X10_isWithin : GoodIn wsX10_reach (va_wsS RX10 142 yX10_isWithin wsX10_isWithin) := goodIn_app (goodIn_of _ (by decide +kernel)) ggX10_reach_X10_isWithin
set_option maxRecDepth 20000 in
theorem ggX10_reach_X10_leastCommon : GoodIn wsX10_reach wsX10_leastCommon := goodIn_r _ [11, 12, 13, 7, 14] (by decide +kernel) (by decide +kernel)
set_option maxRecDepth 20000 in
theorem gX10_reach_X10_leastCommon : GoodIn wsX10_reach (va_wsS RX10 284 yX10_leastCommon wsX10_leastCommon) := goodIn_app (goodIn_of _ (by decide +kernel)) ggX10_reach_X10_leastCommon
theorem dX10_reach_0 : decode cX10_reach 0 = .ok (.iload_n 1, 1) := by decide +kernel
theorem dX10_reach_1 : decode cX10_reach 1 = .ok (.iconst 0, 1) := by decide +kernel
theorem dX10_reach_2 : decode cX10_reach 2 = .ok (.iconst 1, 1) := by decide +kernel
theorem dX10_reach_3 : decode cX10_reach 3 = .ok (.aload_n 0, 1) := by decide +kernel
theorem dX10_reach_4 : decode cX10_reach 4 = .ok (.getfield 10, 3) := by decide +kernel
theorem dX10_reach_7 : decode cX10_reach 7 = .ok (.getfield 122, 3) := by decide +kernel
theorem dX10_reach_10 : decode cX10_reach 10 = .ok (.ishl, 1) := by decide +kernel
theorem dX10_reach_11 : decode cX10_reach 11 = .ok (.iconst 1, 1) := by decide +kernel
theorem dX10_reach_12 : decode cX10_reach 12 = .ok (.isub, 1) := by decide +kernel
theorem dX10_reach_13 : decode cX10_reach 13 = .ok (.invokestatic 142, 3) := by decide +kernel
theorem dX10_reach_16 : decode cX10_reach 16 = .ok (.ifCond .ne 7, 3) := by decide +kernel
theorem dX10_reach_19 : decode cX10_reach 19 = .ok (.ldc_w 283, 3) := by decide +kernel
theorem dX10_reach_22 : decode cX10_reach 22 = .ok (.ireturn, 1) := by decide +kernel
theorem dX10_reach_23 : decode cX10_reach 23 = .ok (.iconst 1, 1) := by decide +kernel
theorem dX10_reach_24 : decode cX10_reach 24 = .ok (.istore_n 3, 1) := by decide +kernel
theorem dX10_reach_25 : decode cX10_reach 25 = .ok (.iconst 0, 1) := by decide +kernel
theorem dX10_reach_26 : decode cX10_reach 26 = .ok (.istore 4, 2) := by decide +kernel
theorem dX10_reach_28 : decode cX10_reach 28 = .ok (.iload 4, 2) := by decide +kernel
theorem dX10_reach_30 : decode cX10_reach 30 = .ok (.aload_n 0, 1) := by decide +kernel
theorem dX10_reach_31 : decode cX10_reach 31 = .ok (.getfield 10, 3) := by decide +kernel
theorem dX10_reach_34 : decode cX10_reach 34 = .ok (.getfield 122, 3) := by decide +kernel
theorem dX10_reach_37 : decode cX10_reach 37 = .ok (.if_icmp .ge 33, 3) := by decide +kernel
theorem dX10_reach_40 : decode cX10_reach 40 = .ok (.iload_n 1, 1) := by decide +kernel
theorem dX10_reach_41 : decode cX10_reach 41 = .ok (.iload 4, 2) := by decide +kernel
theorem dX10_reach_43 : decode cX10_reach 43 = .ok (.ishr, 1) := by decide +kernel
theorem dX10_reach_44 : decode cX10_reach 44 = .ok (.iconst 1, 1) := by decide +kernel
theorem dX10_reach_45 : decode cX10_reach 45 = .ok (.iand, 1) := by decide +kernel
theorem dX10_reach_46 : decode cX10_reach 46 = .ok (.ifCond .eq 18, 3) := by decide +kernel
theorem dX10_reach_49 : decode cX10_reach 49 = .ok (.iload_n 3, 1) := by decide +kernel
theorem dX10_reach_50 : decode cX10_reach 50 = .ok (.aload_n 0, 1) := by decide +kernel
theorem dX10_reach_51 : decode cX10_reach 51 = .ok (.getfield 10, 3) := by decide +kernel
theorem dX10_reach_54 : decode cX10_reach 54 = .ok (.getfield 238, 3) := by decide +kernel
theorem dX10_reach_57 : decode cX10_reach 57 = .ok (.iload 4, 2) := by decide +kernel
theorem dX10_reach_59 : decode cX10_reach 59 = .ok (.iaload, 1) := by decide +kernel
theorem dX10_reach_60 : decode cX10_reach 60 = .ok (.invokestatic 284, 3) := by decide +kernel
theorem dX10_reach_63 : decode cX10_reach 63 = .ok (.istore_n 3, 1) := by decide +kernel
theorem dX10_reach_64 : decode cX10_reach 64 = .ok (.iinc 4 1, 3) := by decide +kernel
theorem dX10_reach_67 : decode cX10_reach 67 = .ok (.goto (-39), 3) := by decide +kernel
theorem dX10_reach_70 : decode cX10_reach 70 = .ok (.iload_n 3, 1) := by decide +kernel
theorem dX10_reach_71 : decode cX10_reach 71 = .ok (.i2l, 1) := by decide +kernel
theorem dX10_reach_72 : decode cX10_reach 72 = .ok (.iload_n 2, 1) := by decide +kernel
theorem dX10_reach_73 : decode cX10_reach 73 = .ok (.i2l, 1) := by decide +kernel
theorem dX10_reach_74 : decode cX10_reach 74 = .ok (.lmul, 1) := by decide +kernel
theorem dX10_reach_75 : decode cX10_reach 75 = .ok (.lstore 4, 2) := by decide +kernel
theorem dX10_reach_77 : decode cX10_reach 77 = .ok (.lload 4, 2) := by decide +kernel
theorem dX10_reach_79 : decode cX10_reach 79 = .ok (.lload 4, 2) := by decide +kernel
theorem dX10_reach_81 : decode cX10_reach 81 = .ok (.l2i, 1) := by decide +kernel
theorem dX10_reach_82 : decode cX10_reach 82 = .ok (.i2l, 1) := by decide +kernel
theorem dX10_reach_83 : decode cX10_reach 83 = .ok (.lcmp, 1) := by decide +kernel
theorem dX10_reach_84 : decode cX10_reach 84 = .ok (.ifCond .ne 9, 3) := by decide +kernel
theorem dX10_reach_87 : decode cX10_reach 87 = .ok (.lload 4, 2) := by decide +kernel
theorem dX10_reach_89 : decode cX10_reach 89 = .ok (.l2i, 1) := by decide +kernel
theorem dX10_reach_90 : decode cX10_reach 90 = .ok (.goto 6, 3) := by decide +kernel
theorem dX10_reach_93 : decode cX10_reach 93 = .ok (.ldc_w 283, 3) := by decide +kernel
theorem dX10_reach_96 : decode cX10_reach 96 = .ok (.ireturn, 1) := by decide +kernel
set_option maxRecDepth 20000 in
theorem ggX10_joined_X10_nextAtPlace : GoodIn wsX10_joined wsX10_nextAtPlace := goodIn_r _ [8] (by decide +kernel) (by decide +kernel)
set_option maxRecDepth 20000 in
theorem gX10_joined_X10_nextAtPlace : GoodIn wsX10_joined (va_wsS RX10 287 yX10_nextAtPlace wsX10_nextAtPlace) := goodIn_app (goodIn_of _ (by decide +kernel)) ggX10_joined_X10_nextAtPlace
set_option maxRecDepth 20000 in
theorem ggX10_joined_X10_leastCommon : GoodIn wsX10_joined wsX10_leastCommon := goodIn_r _ [11, 12, 13, 7, 14] (by decide +kernel) (by decide +kernel)
set_option maxRecDepth 20000 in
theorem gX10_joined_X10_leastCommon : GoodIn wsX10_joined (va_wsS RX10 284 yX10_leastCommon wsX10_leastCommon) := goodIn_app (goodIn_of _ (by decide +kernel)) ggX10_joined_X10_leastCommon
theorem dX10_joined_0 : decode cX10_joined 0 = .ok (.aload_n 0, 1) := by decide +kernel
theorem dX10_joined_1 : decode cX10_joined 1 = .ok (.getfield 87, 3) := by decide +kernel
theorem dX10_joined_4 : decode cX10_joined 4 = .ok (.iconst 0, 1) := by decide +kernel
theorem dX10_joined_5 : decode cX10_joined 5 = .ok (.iload_n 1, 1) := by decide +kernel
theorem dX10_joined_6 : decode cX10_joined 6 = .ok (.iastore, 1) := by decide +kernel
theorem dX10_joined_7 : decode cX10_joined 7 = .ok (.aload_n 0, 1) := by decide +kernel
theorem dX10_joined_8 : decode cX10_joined 8 = .ok (.getfield 87, 3) := by decide +kernel
theorem dX10_joined_11 : decode cX10_joined 11 = .ok (.iconst 1, 1) := by decide +kernel
theorem dX10_joined_12 : decode cX10_joined 12 = .ok (.iload_n 2, 1) := by decide +kernel
theorem dX10_joined_13 : decode cX10_joined 13 = .ok (.iastore, 1) := by decide +kernel
theorem dX10_joined_14 : decode cX10_joined 14 = .ok (.aload_n 0, 1) := by decide +kernel
theorem dX10_joined_15 : decode cX10_joined 15 = .ok (.getfield 87, 3) := by decide +kernel
theorem dX10_joined_18 : decode cX10_joined 18 = .ok (.iconst 2, 1) := by decide +kernel
theorem dX10_joined_19 : decode cX10_joined 19 = .ok (.iload_n 3, 1) := by decide +kernel
theorem dX10_joined_20 : decode cX10_joined 20 = .ok (.iastore, 1) := by decide +kernel
theorem dX10_joined_21 : decode cX10_joined 21 = .ok (.aload_n 0, 1) := by decide +kernel
theorem dX10_joined_22 : decode cX10_joined 22 = .ok (.getfield 87, 3) := by decide +kernel
theorem dX10_joined_25 : decode cX10_joined 25 = .ok (.iconst 3, 1) := by decide +kernel
theorem dX10_joined_26 : decode cX10_joined 26 = .ok (.iload 4, 2) := by decide +kernel
theorem dX10_joined_28 : decode cX10_joined 28 = .ok (.iastore, 1) := by decide +kernel
theorem dX10_joined_29 : decode cX10_joined 29 = .ok (.aload_n 0, 1) := by decide +kernel
theorem dX10_joined_30 : decode cX10_joined 30 = .ok (.getfield 87, 3) := by decide +kernel
theorem dX10_joined_33 : decode cX10_joined 33 = .ok (.iconst 4, 1) := by decide +kernel
theorem dX10_joined_34 : decode cX10_joined 34 = .ok (.iload 5, 2) := by decide +kernel
theorem dX10_joined_36 : decode cX10_joined 36 = .ok (.iastore, 1) := by decide +kernel
theorem dX10_joined_37 : decode cX10_joined 37 = .ok (.iconst 0, 1) := by decide +kernel
theorem dX10_joined_38 : decode cX10_joined 38 = .ok (.istore 6, 2) := by decide +kernel
theorem dX10_joined_40 : decode cX10_joined 40 = .ok (.iconst 1, 1) := by decide +kernel
theorem dX10_joined_41 : decode cX10_joined 41 = .ok (.istore 7, 2) := by decide +kernel
theorem dX10_joined_43 : decode cX10_joined 43 = .ok (.iconst 0, 1) := by decide +kernel
theorem dX10_joined_44 : decode cX10_joined 44 = .ok (.istore 8, 2) := by decide +kernel
theorem dX10_joined_46 : decode cX10_joined 46 = .ok (.iload 8, 2) := by decide +kernel
theorem dX10_joined_48 : decode cX10_joined 48 = .ok (.aload_n 0, 1) := by decide +kernel
theorem dX10_joined_49 : decode cX10_joined 49 = .ok (.getfield 10, 3) := by decide +kernel
theorem dX10_joined_52 : decode cX10_joined 52 = .ok (.getfield 122, 3) := by decide +kernel
theorem dX10_joined_55 : decode cX10_joined 55 = .ok (.if_icmp .ge 70, 3) := by decide +kernel
theorem dX10_joined_58 : decode cX10_joined 58 = .ok (.aload_n 0, 1) := by decide +kernel
theorem dX10_joined_59 : decode cX10_joined 59 = .ok (.getfield 87, 3) := by decide +kernel
theorem dX10_joined_62 : decode cX10_joined 62 = .ok (.iload 8, 2) := by decide +kernel
theorem dX10_joined_64 : decode cX10_joined 64 = .ok (.iaload, 1) := by decide +kernel
theorem dX10_joined_65 : decode cX10_joined 65 = .ok (.ifCond .lt 54, 3) := by decide +kernel
theorem dX10_joined_68 : decode cX10_joined 68 = .ok (.iload 6, 2) := by decide +kernel
theorem dX10_joined_70 : decode cX10_joined 70 = .ok (.iload 7, 2) := by decide +kernel
theorem dX10_joined_72 : decode cX10_joined 72 = .ok (.aload_n 0, 1) := by decide +kernel
theorem dX10_joined_73 : decode cX10_joined 73 = .ok (.getfield 10, 3) := by decide +kernel
theorem dX10_joined_76 : decode cX10_joined 76 = .ok (.getfield 238, 3) := by decide +kernel
theorem dX10_joined_79 : decode cX10_joined 79 = .ok (.iload 8, 2) := by decide +kernel
theorem dX10_joined_81 : decode cX10_joined 81 = .ok (.iaload, 1) := by decide +kernel
theorem dX10_joined_82 : decode cX10_joined 82 = .ok (.aload_n 0, 1) := by decide +kernel
theorem dX10_joined_83 : decode cX10_joined 83 = .ok (.getfield 87, 3) := by decide +kernel
theorem dX10_joined_86 : decode cX10_joined 86 = .ok (.iload 8, 2) := by decide +kernel
theorem dX10_joined_88 : decode cX10_joined 88 = .ok (.iaload, 1) := by decide +kernel
theorem dX10_joined_89 : decode cX10_joined 89 = .ok (.invokestatic 287, 3) := by decide +kernel
theorem dX10_joined_92 : decode cX10_joined 92 = .ok (.istore 6, 2) := by decide +kernel
theorem dX10_joined_94 : decode cX10_joined 94 = .ok (.iload 6, 2) := by decide +kernel
theorem dX10_joined_96 : decode cX10_joined 96 = .ok (.iconst (-1), 1) := by decide +kernel
theorem dX10_joined_97 : decode cX10_joined 97 = .ok (.if_icmp .ne 5, 3) := by decide +kernel
theorem dX10_joined_100 : decode cX10_joined 100 = .ok (.iconst (-1), 1) := by decide +kernel
theorem dX10_joined_101 : decode cX10_joined 101 = .ok (.ireturn, 1) := by decide +kernel
theorem dX10_joined_102 : decode cX10_joined 102 = .ok (.iload 7, 2) := by decide +kernel
theorem dX10_joined_104 : decode cX10_joined 104 = .ok (.aload_n 0, 1) := by decide +kernel
theorem dX10_joined_105 : decode cX10_joined 105 = .ok (.getfield 10, 3) := by decide +kernel
theorem dX10_joined_108 : decode cX10_joined 108 = .ok (.getfield 238, 3) := by decide +kernel
theorem dX10_joined_111 : decode cX10_joined 111 = .ok (.iload 8, 2) := by decide +kernel
theorem dX10_joined_113 : decode cX10_joined 113 = .ok (.iaload, 1) := by decide +kernel
theorem dX10_joined_114 : decode cX10_joined 114 = .ok (.invokestatic 284, 3) := by decide +kernel
theorem dX10_joined_117 : decode cX10_joined 117 = .ok (.istore 7, 2) := by decide +kernel
theorem dX10_joined_119 : decode cX10_joined 119 = .ok (.iinc 8 1, 3) := by decide +kernel
theorem dX10_joined_122 : decode cX10_joined 122 = .ok (.goto (-76), 3) := by decide +kernel
theorem dX10_joined_125 : decode cX10_joined 125 = .ok (.iload 6, 2) := by decide +kernel
theorem dX10_joined_127 : decode cX10_joined 127 = .ok (.ireturn, 1) := by decide +kernel
set_option maxRecDepth 20000 in
theorem ggX10_at_X5_hasGap : GoodIn wsX10_at wsX5_hasGap := goodIn_r _ [8, 9, 71, 72, 73, 74, 75, 76, 77, 78, 79, 80, 81, 82, 83] (by decide +kernel) (by decide +kernel)
set_option maxRecDepth 20000 in
theorem gX10_at_X5_hasGap : GoodIn wsX10_at (wsV RX10 232 RX5 yX5_hasGap wsX5_hasGap) := goodIn_app (goodIn_of _ (by decide +kernel)) ggX10_at_X5_hasGap
set_option maxRecDepth 20000 in
theorem ggX10_at_X10_isWithin : GoodIn wsX10_at wsX10_isWithin := goodIn_r _ [13] (by decide +kernel) (by decide +kernel)
set_option maxRecDepth 20000 in
theorem gX10_at_X10_isWithin : GoodIn wsX10_at (va_wsS RX10 142 yX10_isWithin wsX10_isWithin) := goodIn_app (goodIn_of _ (by decide +kernel)) ggX10_at_X10_isWithin
set_option maxRecDepth 20000 in
theorem ggX10_at_X3_listen : GoodIn wsX10_at wsX3_listen := goodIn_r _ [18, 19, 20, 21, 22, 23, 17, 24, 25, 26, 27, 28, 11, 12, 13, 29, 30, 10, 31, 32, 33, 7, 34, 35, 36, 37, 38, 39, 40, 41, 42, 43, 44, 45, 46, 47, 48, 71, 72, 73, 74, 75, 76, 77, 78, 79, 80, 81, 82, 83, 84, 85, 86, 87, 88, 89] (by decide +kernel) (by decide +kernel)
set_option maxRecDepth 20000 in
theorem gX10_at_X3_listen : GoodIn wsX10_at (wsV RX10 184 RX3 yX3_listen wsX3_listen) := goodIn_app (goodIn_of _ (by decide +kernel)) ggX10_at_X3_listen
set_option maxRecDepth 20000 in
theorem ggX10_at_X3_loudAt : GoodIn wsX10_at wsX3_loudAt := goodIn_r _ [52, 26, 84, 85, 86, 87, 88, 89] (by decide +kernel) (by decide +kernel)
set_option maxRecDepth 20000 in
theorem gX10_at_X3_loudAt : GoodIn wsX10_at (wsV RX10 291 RX3 yX3_loudAt wsX3_loudAt) := goodIn_app (goodIn_of _ (by decide +kernel)) ggX10_at_X3_loudAt
set_option maxRecDepth 20000 in
theorem ggX10_at_X3_targetsAt : GoodIn wsX10_at wsX3_targetsAt := goodIn_r _ [56, 25, 84, 85, 86, 87, 88, 89] (by decide +kernel) (by decide +kernel)
set_option maxRecDepth 20000 in
theorem gX10_at_X3_targetsAt : GoodIn wsX10_at (wsV RX10 294 RX3 yX3_targetsAt wsX3_targetsAt) := goodIn_app (goodIn_of _ (by decide +kernel)) ggX10_at_X3_targetsAt
theorem dX10_at_0 : decode cX10_at 0 = .ok (.aload_n 0, 1) := by decide +kernel
theorem dX10_at_1 : decode cX10_at 1 = .ok (.getfield 10, 3) := by decide +kernel
theorem dX10_at_4 : decode cX10_at 4 = .ok (.iload_n 1, 1) := by decide +kernel
theorem dX10_at_5 : decode cX10_at 5 = .ok (.invokevirtual 232, 3) := by decide +kernel
theorem dX10_at_8 : decode cX10_at 8 = .ok (.ifCond .eq 22, 3) := by decide +kernel
theorem dX10_at_11 : decode cX10_at 11 = .ok (.iload_n 2, 1) := by decide +kernel
theorem dX10_at_12 : decode cX10_at 12 = .ok (.iconst 0, 1) := by decide +kernel
theorem dX10_at_13 : decode cX10_at 13 = .ok (.aload_n 0, 1) := by decide +kernel
theorem dX10_at_14 : decode cX10_at 14 = .ok (.getfield 10, 3) := by decide +kernel
theorem dX10_at_17 : decode cX10_at 17 = .ok (.getfield 238, 3) := by decide +kernel
theorem dX10_at_20 : decode cX10_at 20 = .ok (.iload_n 1, 1) := by decide +kernel
theorem dX10_at_21 : decode cX10_at 21 = .ok (.iaload, 1) := by decide +kernel
theorem dX10_at_22 : decode cX10_at 22 = .ok (.iconst 1, 1) := by decide +kernel
theorem dX10_at_23 : decode cX10_at 23 = .ok (.isub, 1) := by decide +kernel
theorem dX10_at_24 : decode cX10_at 24 = .ok (.invokestatic 142, 3) := by decide +kernel
theorem dX10_at_27 : decode cX10_at 27 = .ok (.ifCond .ne 5, 3) := by decide +kernel
theorem dX10_at_30 : decode cX10_at 30 = .ok (.iconst (-1), 1) := by decide +kernel
theorem dX10_at_31 : decode cX10_at 31 = .ok (.ireturn, 1) := by decide +kernel
theorem dX10_at_32 : decode cX10_at 32 = .ok (.aload_n 0, 1) := by decide +kernel
theorem dX10_at_33 : decode cX10_at 33 = .ok (.getfield 55, 3) := by decide +kernel
theorem dX10_at_36 : decode cX10_at 36 = .ok (.aload_n 0, 1) := by decide +kernel
theorem dX10_at_37 : decode cX10_at 37 = .ok (.getfield 10, 3) := by decide +kernel
theorem dX10_at_40 : decode cX10_at 40 = .ok (.invokevirtual 184, 3) := by decide +kernel
theorem dX10_at_43 : decode cX10_at 43 = .ok (.iload_n 3, 1) := by decide +kernel
theorem dX10_at_44 : decode cX10_at 44 = .ok (.ifCond .eq 15, 3) := by decide +kernel
theorem dX10_at_47 : decode cX10_at 47 = .ok (.aload_n 0, 1) := by decide +kernel
theorem dX10_at_48 : decode cX10_at 48 = .ok (.getfield 55, 3) := by decide +kernel
theorem dX10_at_51 : decode cX10_at 51 = .ok (.iload_n 1, 1) := by decide +kernel
theorem dX10_at_52 : decode cX10_at 52 = .ok (.iload_n 2, 1) := by decide +kernel
theorem dX10_at_53 : decode cX10_at 53 = .ok (.invokevirtual 291, 3) := by decide +kernel
theorem dX10_at_56 : decode cX10_at 56 = .ok (.goto 12, 3) := by decide +kernel
theorem dX10_at_59 : decode cX10_at 59 = .ok (.aload_n 0, 1) := by decide +kernel
theorem dX10_at_60 : decode cX10_at 60 = .ok (.getfield 55, 3) := by decide +kernel
theorem dX10_at_63 : decode cX10_at 63 = .ok (.iload_n 1, 1) := by decide +kernel
theorem dX10_at_64 : decode cX10_at 64 = .ok (.iload_n 2, 1) := by decide +kernel
theorem dX10_at_65 : decode cX10_at 65 = .ok (.invokevirtual 294, 3) := by decide +kernel
theorem dX10_at_68 : decode cX10_at 68 = .ok (.ireturn, 1) := by decide +kernel
set_option maxRecDepth 20000 in
theorem ggX10_hits_X10_isWithin : GoodIn wsX10_hits wsX10_isWithin := goodIn_r _ [6] (by decide +kernel) (by decide +kernel)
set_option maxRecDepth 20000 in
theorem gX10_hits_X10_isWithin : GoodIn wsX10_hits (va_wsS RX10 142 yX10_isWithin wsX10_isWithin) := goodIn_app (goodIn_of _ (by decide +kernel)) ggX10_hits_X10_isWithin
set_option maxRecDepth 20000 in
theorem ggX10_hits_X3_listen : GoodIn wsX10_hits wsX3_listen := goodIn_r _ [11, 12, 13, 14, 15, 16, 10, 17, 18, 19, 20, 21, 4, 5, 6, 22, 23, 3, 24, 25, 26, 27, 28, 29, 30, 31, 32, 33, 34, 35, 36, 37, 38, 39, 40, 41, 42, 66, 67, 68, 69, 70, 71, 72, 73, 74, 75, 76, 77, 78, 79, 80, 81, 82, 83, 84] (by decide +kernel) (by decide +kernel)
set_option maxRecDepth 20000 in
theorem gX10_hits_X3_listen : GoodIn wsX10_hits (wsV RX10 184 RX3 yX3_listen wsX3_listen) := goodIn_app (goodIn_of _ (by decide +kernel)) ggX10_hits_X3_listen
set_option maxRecDepth 20000 in
theorem ggX10_hits_X3_hitsOf : GoodIn wsX10_hits wsX3_hitsOf := goodIn_r _ [46, 12, 13, 36, 5, 37, 47, 48, 49, 10, 50, 19, 51, 66, 67, 68, 69, 70, 71, 72, 73, 74, 75, 76, 77, 78, 79, 80, 81, 82, 83, 84] (by decide +kernel) (by decide +kernel)
set_option maxRecDepth 20000 in
theorem gX10_hits_X3_hitsOf : GoodIn wsX10_hits (wsV RX10 297 RX3 yX3_hitsOf wsX3_hitsOf) := goodIn_app (goodIn_of _ (by decide +kernel)) ggX10_hits_X3_hitsOf
theorem dX10_hits_0 : decode cX10_hits 0 = .ok (.iload_n 1, 1) := by decide +kernel
theorem dX10_hits_1 : decode cX10_hits 1 = .ok (.iconst 0, 1) := by decide +kernel
theorem dX10_hits_2 : decode cX10_hits 2 = .ok (.sipush 9999, 3) := by decide +kernel
theorem dX10_hits_5 : decode cX10_hits 5 = .ok (.invokestatic 142, 3) := by decide +kernel
theorem dX10_hits_8 : decode cX10_hits 8 = .ok (.ifCond .ne 5, 3) := by decide +kernel
theorem dX10_hits_11 : decode cX10_hits 11 = .ok (.iconst (-1), 1) := by decide +kernel
theorem dX10_hits_12 : decode cX10_hits 12 = .ok (.ireturn, 1) := by decide +kernel
theorem dX10_hits_13 : decode cX10_hits 13 = .ok (.aload_n 0, 1) := by decide +kernel
theorem dX10_hits_14 : decode cX10_hits 14 = .ok (.getfield 55, 3) := by decide +kernel
theorem dX10_hits_17 : decode cX10_hits 17 = .ok (.aload_n 0, 1) := by decide +kernel
theorem dX10_hits_18 : decode cX10_hits 18 = .ok (.getfield 10, 3) := by decide +kernel
theorem dX10_hits_21 : decode cX10_hits 21 = .ok (.invokevirtual 184, 3) := by decide +kernel
theorem dX10_hits_24 : decode cX10_hits 24 = .ok (.aload_n 0, 1) := by decide +kernel
theorem dX10_hits_25 : decode cX10_hits 25 = .ok (.getfield 55, 3) := by decide +kernel
theorem dX10_hits_28 : decode cX10_hits 28 = .ok (.aload_n 0, 1) := by decide +kernel
theorem dX10_hits_29 : decode cX10_hits 29 = .ok (.getfield 10, 3) := by decide +kernel
theorem dX10_hits_32 : decode cX10_hits 32 = .ok (.iload_n 1, 1) := by decide +kernel
theorem dX10_hits_33 : decode cX10_hits 33 = .ok (.invokevirtual 297, 3) := by decide +kernel
theorem dX10_hits_36 : decode cX10_hits 36 = .ok (.ireturn, 1) := by decide +kernel
set_option maxRecDepth 20000 in
theorem ggX10_found_X3_listen : GoodIn wsX10_found wsX3_listen := goodIn_r _ [7, 8, 9, 10, 11, 12, 6, 13, 14, 15, 16, 17, 18, 19, 20, 21, 22, 23, 24, 25, 26, 27, 28, 29, 30, 31, 32, 33, 34, 35, 36, 37, 38, 39, 40, 41, 42, 99, 100, 101, 102, 103, 104, 105, 106, 107, 108, 109, 110, 111, 112, 113, 114, 115, 116, 117] (by decide +kernel) (by decide +kernel)
set_option maxRecDepth 20000 in
theorem gX10_found_X3_listen : GoodIn wsX10_found (wsV RX10 184 RX3 yX3_listen wsX3_listen) := goodIn_app (goodIn_of _ (by decide +kernel)) ggX10_found_X3_listen
set_option maxRecDepth 20000 in
theorem ggX10_found_X3_foundAt : GoodIn wsX10_found wsX3_foundAt := goodIn_r _ [46, 47, 48, 49, 50, 6, 51, 52, 8, 9, 53, 54, 55, 56, 57, 58, 59, 60, 15, 61, 62, 63, 64, 65, 66, 67, 68, 69, 70, 71, 72, 73, 74, 75, 76, 77, 78, 79, 80, 81, 82, 27, 83, 84, 31, 32, 33, 34, 35, 99, 100, 101, 102, 103, 104, 105, 106, 107, 108, 109, 110, 111, 112, 113, 114, 115, 116, 117] (by decide +kernel) (by decide +kernel)
set_option maxRecDepth 20000 in
theorem gX10_found_X3_foundAt : GoodIn wsX10_found (wsV RX10 300 RX3 yX3_foundAt wsX3_foundAt) := goodIn_app (goodIn_of _ (by decide +kernel)) ggX10_found_X3_foundAt
theorem dX10_found_0 : decode cX10_found 0 = .ok (.iload_n 1, 1) := by decide +kernel
theorem dX10_found_1 : decode cX10_found 1 = .ok (.ifCond .ge 5, 3) := by decide +kernel
theorem dX10_found_4 : decode cX10_found 4 = .ok (.iconst (-1), 1) := by decide +kernel
theorem dX10_found_5 : decode cX10_found 5 = .ok (.ireturn, 1) := by decide +kernel
theorem dX10_found_6 : decode cX10_found 6 = .ok (.aload_n 0, 1) := by decide +kernel
theorem dX10_found_7 : decode cX10_found 7 = .ok (.getfield 55, 3) := by decide +kernel
theorem dX10_found_10 : decode cX10_found 10 = .ok (.aload_n 0, 1) := by decide +kernel
theorem dX10_found_11 : decode cX10_found 11 = .ok (.getfield 10, 3) := by decide +kernel
theorem dX10_found_14 : decode cX10_found 14 = .ok (.invokevirtual 184, 3) := by decide +kernel
theorem dX10_found_17 : decode cX10_found 17 = .ok (.aload_n 0, 1) := by decide +kernel
theorem dX10_found_18 : decode cX10_found 18 = .ok (.getfield 55, 3) := by decide +kernel
theorem dX10_found_21 : decode cX10_found 21 = .ok (.aload_n 0, 1) := by decide +kernel
theorem dX10_found_22 : decode cX10_found 22 = .ok (.getfield 10, 3) := by decide +kernel
theorem dX10_found_25 : decode cX10_found 25 = .ok (.iload_n 1, 1) := by decide +kernel
theorem dX10_found_26 : decode cX10_found 26 = .ok (.iload_n 2, 1) := by decide +kernel
theorem dX10_found_27 : decode cX10_found 27 = .ok (.invokevirtual 300, 3) := by decide +kernel
theorem dX10_found_30 : decode cX10_found 30 = .ok (.ireturn, 1) := by decide +kernel
set_option maxRecDepth 20000 in
theorem ggX10_makers_X10_isWithin : GoodIn wsX10_makers wsX10_isWithin := goodIn_r _ [6] (by decide +kernel) (by decide +kernel)
set_option maxRecDepth 20000 in
theorem gX10_makers_X10_isWithin : GoodIn wsX10_makers (va_wsS RX10 142 yX10_isWithin wsX10_isWithin) := goodIn_app (goodIn_of _ (by decide +kernel)) ggX10_makers_X10_isWithin
set_option maxRecDepth 20000 in
theorem ggX10_makers_X3_listen : GoodIn wsX10_makers wsX3_listen := goodIn_r _ [11, 12, 13, 14, 15, 16, 10, 17, 18, 19, 20, 21, 4, 5, 6, 22, 23, 3, 24, 25, 26, 27, 28, 29, 30, 31, 32, 33, 34, 35, 36, 37, 38, 39, 40, 41, 42, 70, 71, 72, 73, 74, 75, 76, 77, 78, 79, 80, 81, 82, 83, 84, 85, 86, 87, 88] (by decide +kernel) (by decide +kernel)
set_option maxRecDepth 20000 in
theorem gX10_makers_X3_listen : GoodIn wsX10_makers (wsV RX10 184 RX3 yX3_listen wsX3_listen) := goodIn_app (goodIn_of _ (by decide +kernel)) ggX10_makers_X3_listen
set_option maxRecDepth 20000 in
theorem ggX10_makers_X3_makersOf : GoodIn wsX10_makers wsX3_makersOf := goodIn_r _ [46, 12, 13, 36, 5, 37, 47, 48, 49, 10, 50, 19, 51, 52, 53, 54, 55, 18, 70, 71, 72, 73, 74, 75, 76, 77, 78, 79, 80, 81, 82, 83, 84, 85, 86, 87, 88] (by decide +kernel) (by decide +kernel)
set_option maxRecDepth 20000 in
theorem gX10_makers_X3_makersOf : GoodIn wsX10_makers (wsV RX10 304 RX3 yX3_makersOf wsX3_makersOf) := goodIn_app (goodIn_of _ (by decide +kernel)) ggX10_makers_X3_makersOf
theorem dX10_makers_0 : decode cX10_makers 0 = .ok (.iload_n 1, 1) := by decide +kernel
theorem dX10_makers_1 : decode cX10_makers 1 = .ok (.iconst 0, 1) := by decide +kernel
theorem dX10_makers_2 : decode cX10_makers 2 = .ok (.sipush 9999, 3) := by decide +kernel
theorem dX10_makers_5 : decode cX10_makers 5 = .ok (.invokestatic 142, 3) := by decide +kernel
theorem dX10_makers_8 : decode cX10_makers 8 = .ok (.ifCond .ne 5, 3) := by decide +kernel
theorem dX10_makers_11 : decode cX10_makers 11 = .ok (.iconst (-1), 1) := by decide +kernel
theorem dX10_makers_12 : decode cX10_makers 12 = .ok (.ireturn, 1) := by decide +kernel
theorem dX10_makers_13 : decode cX10_makers 13 = .ok (.aload_n 0, 1) := by decide +kernel
theorem dX10_makers_14 : decode cX10_makers 14 = .ok (.getfield 55, 3) := by decide +kernel
theorem dX10_makers_17 : decode cX10_makers 17 = .ok (.aload_n 0, 1) := by decide +kernel
theorem dX10_makers_18 : decode cX10_makers 18 = .ok (.getfield 10, 3) := by decide +kernel
theorem dX10_makers_21 : decode cX10_makers 21 = .ok (.invokevirtual 184, 3) := by decide +kernel
theorem dX10_makers_24 : decode cX10_makers 24 = .ok (.aload_n 0, 1) := by decide +kernel
theorem dX10_makers_25 : decode cX10_makers 25 = .ok (.getfield 55, 3) := by decide +kernel
theorem dX10_makers_28 : decode cX10_makers 28 = .ok (.aload_n 0, 1) := by decide +kernel
theorem dX10_makers_29 : decode cX10_makers 29 = .ok (.getfield 10, 3) := by decide +kernel
theorem dX10_makers_32 : decode cX10_makers 32 = .ok (.iload_n 1, 1) := by decide +kernel
theorem dX10_makers_33 : decode cX10_makers 33 = .ok (.invokevirtual 304, 3) := by decide +kernel
theorem dX10_makers_36 : decode cX10_makers 36 = .ok (.ireturn, 1) := by decide +kernel
set_option maxRecDepth 20000 in
theorem ggX10_picture_X3_listen : GoodIn wsX10_picture wsX3_listen := goodIn_r _ [10, 11, 12, 13, 14, 15, 9, 16, 17, 18, 19, 20, 21, 22, 23, 24, 25, 26, 27, 28, 29, 30, 31, 32, 33, 34, 35, 36, 37, 38, 39, 40, 41, 42, 43, 44, 45, 110, 111, 112, 113, 114, 115, 116, 117, 118, 119, 120, 121, 122, 104, 105, 106, 107, 108, 109] (by decide +kernel) (by decide +kernel)
set_option maxRecDepth 20000 in
theorem gX10_picture_X3_listen : GoodIn wsX10_picture (wsV RX10 184 RX3 yX3_listen wsX3_listen) := goodIn_app (goodIn_of _ (by decide +kernel)) ggX10_picture_X3_listen
set_option maxRecDepth 20000 in
theorem ggX10_picture_X3_paint : GoodIn wsX10_picture wsX3_paint := goodIn_r _ [49, 50, 11, 51, 52, 53, 54, 55, 9, 56, 12, 57, 58, 59, 60, 61, 62, 63, 64, 18, 65, 66, 67, 68, 69, 70, 71, 72, 73, 74, 75, 76, 77, 78, 79, 80, 81, 82, 83, 84, 85, 39, 22, 40, 86, 87, 88, 89, 104, 105, 106, 107, 108, 109, 110, 111, 112, 113, 114, 115, 116, 117, 118, 119, 120, 121, 122] (by decide +kernel) (by decide +kernel)
set_option maxRecDepth 20000 in
theorem gX10_picture_X3_paint : GoodIn wsX10_picture (wsV RX10 187 RX3 yX3_paint wsX3_paint) := goodIn_app (goodIn_of _ (by decide +kernel)) ggX10_picture_X3_paint
set_option maxRecDepth 20000 in
theorem ggX10_picture_X10_isWithin : GoodIn wsX10_picture wsX10_isWithin := goodIn_r _ [23] (by decide +kernel) (by decide +kernel)
set_option maxRecDepth 20000 in
theorem gX10_picture_X10_isWithin : GoodIn wsX10_picture (va_wsS RX10 142 yX10_isWithin wsX10_isWithin) := goodIn_app (goodIn_of _ (by decide +kernel)) ggX10_picture_X10_isWithin
theorem dX10_picture_0 : decode cX10_picture 0 = .ok (.aload_n 0, 1) := by decide +kernel
theorem dX10_picture_1 : decode cX10_picture 1 = .ok (.getfield 55, 3) := by decide +kernel
theorem dX10_picture_4 : decode cX10_picture 4 = .ok (.aload_n 0, 1) := by decide +kernel
theorem dX10_picture_5 : decode cX10_picture 5 = .ok (.getfield 10, 3) := by decide +kernel
theorem dX10_picture_8 : decode cX10_picture 8 = .ok (.invokevirtual 184, 3) := by decide +kernel
theorem dX10_picture_11 : decode cX10_picture 11 = .ok (.aload_n 0, 1) := by decide +kernel
theorem dX10_picture_12 : decode cX10_picture 12 = .ok (.getfield 55, 3) := by decide +kernel
theorem dX10_picture_15 : decode cX10_picture 15 = .ok (.aload_n 0, 1) := by decide +kernel
theorem dX10_picture_16 : decode cX10_picture 16 = .ok (.getfield 10, 3) := by decide +kernel
theorem dX10_picture_19 : decode cX10_picture 19 = .ok (.invokevirtual 187, 3) := by decide +kernel
theorem dX10_picture_22 : decode cX10_picture 22 = .ok (.iload_n 1, 1) := by decide +kernel
theorem dX10_picture_23 : decode cX10_picture 23 = .ok (.iconst 0, 1) := by decide +kernel
theorem dX10_picture_24 : decode cX10_picture 24 = .ok (.aload_n 0, 1) := by decide +kernel
theorem dX10_picture_25 : decode cX10_picture 25 = .ok (.getfield 55, 3) := by decide +kernel
theorem dX10_picture_28 : decode cX10_picture 28 = .ok (.getfield 190, 3) := by decide +kernel
theorem dX10_picture_31 : decode cX10_picture 31 = .ok (.iconst 1, 1) := by decide +kernel
theorem dX10_picture_32 : decode cX10_picture 32 = .ok (.isub, 1) := by decide +kernel
theorem dX10_picture_33 : decode cX10_picture 33 = .ok (.invokestatic 142, 3) := by decide +kernel
theorem dX10_picture_36 : decode cX10_picture 36 = .ok (.ifCond .ne 5, 3) := by decide +kernel
theorem dX10_picture_39 : decode cX10_picture 39 = .ok (.iconst (-1), 1) := by decide +kernel
theorem dX10_picture_40 : decode cX10_picture 40 = .ok (.ireturn, 1) := by decide +kernel
theorem dX10_picture_41 : decode cX10_picture 41 = .ok (.iload_n 2, 1) := by decide +kernel
theorem dX10_picture_42 : decode cX10_picture 42 = .ok (.ifCond .eq 15, 3) := by decide +kernel
theorem dX10_picture_45 : decode cX10_picture 45 = .ok (.aload_n 0, 1) := by decide +kernel
theorem dX10_picture_46 : decode cX10_picture 46 = .ok (.getfield 55, 3) := by decide +kernel
theorem dX10_picture_49 : decode cX10_picture 49 = .ok (.getfield 307, 3) := by decide +kernel
theorem dX10_picture_52 : decode cX10_picture 52 = .ok (.iload_n 1, 1) := by decide +kernel
theorem dX10_picture_53 : decode cX10_picture 53 = .ok (.iaload, 1) := by decide +kernel
theorem dX10_picture_54 : decode cX10_picture 54 = .ok (.goto 12, 3) := by decide +kernel
theorem dX10_picture_57 : decode cX10_picture 57 = .ok (.aload_n 0, 1) := by decide +kernel
theorem dX10_picture_58 : decode cX10_picture 58 = .ok (.getfield 55, 3) := by decide +kernel
theorem dX10_picture_61 : decode cX10_picture 61 = .ok (.getfield 199, 3) := by decide +kernel
theorem dX10_picture_64 : decode cX10_picture 64 = .ok (.iload_n 1, 1) := by decide +kernel
theorem dX10_picture_65 : decode cX10_picture 65 = .ok (.iaload, 1) := by decide +kernel
theorem dX10_picture_66 : decode cX10_picture 66 = .ok (.ireturn, 1) := by decide +kernel
set_option maxRecDepth 20000 in
theorem ggX10_pairs_X10_isWithin : GoodIn wsX10_pairs wsX10_isWithin := goodIn_r _ [6] (by decide +kernel) (by decide +kernel)
set_option maxRecDepth 20000 in
theorem gX10_pairs_X10_isWithin : GoodIn wsX10_pairs (va_wsS RX10 142 yX10_isWithin wsX10_isWithin) := goodIn_app (goodIn_of _ (by decide +kernel)) ggX10_pairs_X10_isWithin
set_option maxRecDepth 20000 in
theorem ggX10_pairs_X3_listen : GoodIn wsX10_pairs wsX3_listen := goodIn_r _ [11, 12, 13, 14, 15, 16, 10, 17, 18, 19, 20, 21, 4, 5, 6, 22, 23, 3, 24, 25, 26, 27, 28, 29, 30, 31, 32, 33, 34, 35, 36, 37, 38, 39, 40, 41, 42, 101, 102, 103, 104, 105, 106, 107, 108, 109, 110, 111, 112, 113, 114, 115, 116, 117, 118, 119] (by decide +kernel) (by decide +kernel)
set_option maxRecDepth 20000 in
theorem gX10_pairs_X3_listen : GoodIn wsX10_pairs (wsV RX10 184 RX3 yX3_listen wsX3_listen) := goodIn_app (goodIn_of _ (by decide +kernel)) ggX10_pairs_X3_listen
set_option maxRecDepth 20000 in
theorem ggX10_pairs_X3_countPairings : GoodIn wsX10_pairs wsX3_countPairings := goodIn_r _ [46, 12, 47, 48, 49, 10, 50, 13, 51, 52, 53, 54, 19, 55, 101, 102, 103, 104, 105, 106, 107, 108, 109, 110, 111, 112, 113, 114, 115, 116, 117, 118, 119] (by decide +kernel) (by decide +kernel)
set_option maxRecDepth 20000 in
theorem gX10_pairs_X3_countPairings : GoodIn wsX10_pairs (wsV RX10 310 RX3 yX3_countPairings wsX3_countPairings) := goodIn_app (goodIn_of _ (by decide +kernel)) ggX10_pairs_X3_countPairings
set_option maxRecDepth 20000 in
theorem ggX10_pairs_X3_countJoined : GoodIn wsX10_pairs wsX3_countJoined := goodIn_r _ [59, 12, 13, 55, 60, 61, 62, 63, 10, 64, 65, 66, 67, 68, 51, 52, 53, 54, 19, 69, 70, 71, 72, 73, 74, 75, 76, 77, 5, 78, 79, 80, 81, 82, 83, 84, 27, 85, 86, 31, 32, 33, 34, 35, 101, 102, 103, 104, 105, 106, 107, 108, 109, 110, 111, 112, 113, 114, 115, 116, 117, 118, 119] (by decide +kernel) (by decide +kernel)
set_option maxRecDepth 20000 in
theorem gX10_pairs_X3_countJoined : GoodIn wsX10_pairs (wsV RX10 313 RX3 yX3_countJoined wsX3_countJoined) := goodIn_app (goodIn_of _ (by decide +kernel)) ggX10_pairs_X3_countJoined
theorem dX10_pairs_0 : decode cX10_pairs 0 = .ok (.iload_n 1, 1) := by decide +kernel
theorem dX10_pairs_1 : decode cX10_pairs 1 = .ok (.iconst 0, 1) := by decide +kernel
theorem dX10_pairs_2 : decode cX10_pairs 2 = .ok (.iconst 2, 1) := by decide +kernel
theorem dX10_pairs_3 : decode cX10_pairs 3 = .ok (.invokestatic 142, 3) := by decide +kernel
theorem dX10_pairs_6 : decode cX10_pairs 6 = .ok (.ifCond .ne 5, 3) := by decide +kernel
theorem dX10_pairs_9 : decode cX10_pairs 9 = .ok (.iconst (-1), 1) := by decide +kernel
theorem dX10_pairs_10 : decode cX10_pairs 10 = .ok (.ireturn, 1) := by decide +kernel
theorem dX10_pairs_11 : decode cX10_pairs 11 = .ok (.aload_n 0, 1) := by decide +kernel
theorem dX10_pairs_12 : decode cX10_pairs 12 = .ok (.getfield 55, 3) := by decide +kernel
theorem dX10_pairs_15 : decode cX10_pairs 15 = .ok (.aload_n 0, 1) := by decide +kernel
theorem dX10_pairs_16 : decode cX10_pairs 16 = .ok (.getfield 10, 3) := by decide +kernel
theorem dX10_pairs_19 : decode cX10_pairs 19 = .ok (.invokevirtual 184, 3) := by decide +kernel
theorem dX10_pairs_22 : decode cX10_pairs 22 = .ok (.iload_n 1, 1) := by decide +kernel
theorem dX10_pairs_23 : decode cX10_pairs 23 = .ok (.ifCond .ne 17, 3) := by decide +kernel
theorem dX10_pairs_26 : decode cX10_pairs 26 = .ok (.aload_n 0, 1) := by decide +kernel
theorem dX10_pairs_27 : decode cX10_pairs 27 = .ok (.getfield 55, 3) := by decide +kernel
theorem dX10_pairs_30 : decode cX10_pairs 30 = .ok (.aload_n 0, 1) := by decide +kernel
theorem dX10_pairs_31 : decode cX10_pairs 31 = .ok (.getfield 10, 3) := by decide +kernel
theorem dX10_pairs_34 : decode cX10_pairs 34 = .ok (.invokevirtual 310, 3) := by decide +kernel
theorem dX10_pairs_37 : decode cX10_pairs 37 = .ok (.goto 24, 3) := by decide +kernel
theorem dX10_pairs_40 : decode cX10_pairs 40 = .ok (.aload_n 0, 1) := by decide +kernel
theorem dX10_pairs_41 : decode cX10_pairs 41 = .ok (.getfield 55, 3) := by decide +kernel
theorem dX10_pairs_44 : decode cX10_pairs 44 = .ok (.aload_n 0, 1) := by decide +kernel
theorem dX10_pairs_45 : decode cX10_pairs 45 = .ok (.getfield 10, 3) := by decide +kernel
theorem dX10_pairs_48 : decode cX10_pairs 48 = .ok (.iload_n 1, 1) := by decide +kernel
theorem dX10_pairs_49 : decode cX10_pairs 49 = .ok (.iconst 2, 1) := by decide +kernel
theorem dX10_pairs_50 : decode cX10_pairs 50 = .ok (.if_icmp .ne 7, 3) := by decide +kernel
theorem dX10_pairs_53 : decode cX10_pairs 53 = .ok (.iconst 1, 1) := by decide +kernel
theorem dX10_pairs_54 : decode cX10_pairs 54 = .ok (.goto 4, 3) := by decide +kernel
theorem dX10_pairs_57 : decode cX10_pairs 57 = .ok (.iconst 0, 1) := by decide +kernel
theorem dX10_pairs_58 : decode cX10_pairs 58 = .ok (.invokevirtual 313, 3) := by decide +kernel
theorem dX10_pairs_61 : decode cX10_pairs 61 = .ok (.ireturn, 1) := by decide +kernel
set_option maxRecDepth 20000 in
theorem ggX10_track_X9_countAll : GoodIn wsX10_track wsX9_countAll := goodIn_r _ [9, 10, 11, 12, 13, 14, 8, 15, 16, 17, 18, 19, 20, 21, 22, 23, 24, 25, 26, 27, 28, 29, 30, 31, 32, 33, 34, 35, 36, 37, 38, 39, 40, 41, 42, 43, 44, 45, 46, 88, 89, 90, 75, 76, 77, 78, 79, 80, 81, 82, 83, 84, 85, 86, 87] (by decide +kernel) (by decide +kernel)
set_option maxRecDepth 20000 in
theorem gX10_track_X9_countAll : GoodIn wsX10_track (wsV RX10 316 RX9 yX9_countAll wsX9_countAll) := goodIn_app (goodIn_of _ (by decide +kernel)) ggX10_track_X9_countAll
set_option maxRecDepth 20000 in
theorem ggX10_track_X10_isWithin : GoodIn wsX10_track wsX10_isWithin := goodIn_r _ [50] (by decide +kernel) (by decide +kernel)
set_option maxRecDepth 20000 in
theorem gX10_track_X10_isWithin : GoodIn wsX10_track (va_wsS RX10 142 yX10_isWithin wsX10_isWithin) := goodIn_app (goodIn_of _ (by decide +kernel)) ggX10_track_X10_isWithin
set_option maxRecDepth 20000 in
theorem ggX10_track_X9_seek : GoodIn wsX10_track wsX9_seek := goodIn_r _ [15, 11, 16, 17, 18, 19, 20, 21, 8, 22, 23, 24, 25, 26, 27, 28, 29, 30, 31, 32, 33, 34, 35, 36, 37, 38, 39, 40, 41, 42, 43, 44, 45, 46, 88, 89, 90, 75, 76, 77, 78, 79, 80, 81, 82, 83, 84, 85, 86, 87] (by decide +kernel) (by decide +kernel)
set_option maxRecDepth 20000 in
theorem gX10_track_X9_seek : GoodIn wsX10_track (wsV RX10 318 RX9 yX9_seek wsX9_seek) := goodIn_app (goodIn_of _ (by decide +kernel)) ggX10_track_X9_seek
set_option maxRecDepth 20000 in
theorem ggX10_track_X9_paceOf : GoodIn wsX10_track wsX9_paceOf := goodIn_r _ [55, 16, 28, 56, 57, 58, 8, 59, 18, 29, 30, 31, 32, 75, 76, 77, 78, 79, 80, 81, 82, 83, 84, 85, 86, 87, 88, 89, 90] (by decide +kernel) (by decide +kernel)
set_option maxRecDepth 20000 in
theorem gX10_track_X9_paceOf : GoodIn wsX10_track (wsV RX10 322 RX9 yX9_paceOf wsX9_paceOf) := goodIn_app (goodIn_of _ (by decide +kernel)) ggX10_track_X9_paceOf
set_option maxRecDepth 20000 in
theorem ggX10_track_X9_numberIn : GoodIn wsX10_track wsX9_numberIn := goodIn_r _ [59, 18, 29, 30, 8, 31, 32, 88, 89, 90, 75, 76, 77, 78, 79, 80, 81, 82, 83, 84, 85, 86, 87] (by decide +kernel) (by decide +kernel)
set_option maxRecDepth 20000 in
theorem gX10_track_X9_numberIn : GoodIn wsX10_track (wsV RX10 325 RX9 yX9_numberIn wsX9_numberIn) := goodIn_app (goodIn_of _ (by decide +kernel)) ggX10_track_X9_numberIn
theorem dX10_track_0 : decode cX10_track 0 = .ok (.iload_n 1, 1) := by decide +kernel
theorem dX10_track_1 : decode cX10_track 1 = .ok (.iconst (-1), 1) := by decide +kernel
theorem dX10_track_2 : decode cX10_track 2 = .ok (.if_icmp .ne 25, 3) := by decide +kernel
theorem dX10_track_5 : decode cX10_track 5 = .ok (.iload_n 2, 1) := by decide +kernel
theorem dX10_track_6 : decode cX10_track 6 = .ok (.ifCond .ne 17, 3) := by decide +kernel
theorem dX10_track_9 : decode cX10_track 9 = .ok (.aload_n 0, 1) := by decide +kernel
theorem dX10_track_10 : decode cX10_track 10 = .ok (.getfield 62, 3) := by decide +kernel
theorem dX10_track_13 : decode cX10_track 13 = .ok (.aload_n 0, 1) := by decide +kernel
theorem dX10_track_14 : decode cX10_track 14 = .ok (.getfield 10, 3) := by decide +kernel
theorem dX10_track_17 : decode cX10_track 17 = .ok (.invokevirtual 316, 3) := by decide +kernel
theorem dX10_track_20 : decode cX10_track 20 = .ok (.goto 6, 3) := by decide +kernel
theorem dX10_track_23 : decode cX10_track 23 = .ok (.ldc_w 317, 3) := by decide +kernel
theorem dX10_track_26 : decode cX10_track 26 = .ok (.ireturn, 1) := by decide +kernel
theorem dX10_track_27 : decode cX10_track 27 = .ok (.iload_n 1, 1) := by decide +kernel
theorem dX10_track_28 : decode cX10_track 28 = .ok (.ifCond .lt 26, 3) := by decide +kernel
theorem dX10_track_31 : decode cX10_track 31 = .ok (.iload_n 2, 1) := by decide +kernel
theorem dX10_track_32 : decode cX10_track 32 = .ok (.bipush 10, 2) := by decide +kernel
theorem dX10_track_34 : decode cX10_track 34 = .ok (.if_icmp .eq 24, 3) := by decide +kernel
theorem dX10_track_37 : decode cX10_track 37 = .ok (.iload_n 2, 1) := by decide +kernel
theorem dX10_track_38 : decode cX10_track 38 = .ok (.iconst 0, 1) := by decide +kernel
theorem dX10_track_39 : decode cX10_track 39 = .ok (.aload_n 0, 1) := by decide +kernel
theorem dX10_track_40 : decode cX10_track 40 = .ok (.getfield 10, 3) := by decide +kernel
theorem dX10_track_43 : decode cX10_track 43 = .ok (.getfield 178, 3) := by decide +kernel
theorem dX10_track_46 : decode cX10_track 46 = .ok (.iconst 1, 1) := by decide +kernel
theorem dX10_track_47 : decode cX10_track 47 = .ok (.isub, 1) := by decide +kernel
theorem dX10_track_48 : decode cX10_track 48 = .ok (.invokestatic 142, 3) := by decide +kernel
theorem dX10_track_51 : decode cX10_track 51 = .ok (.ifCond .ne 7, 3) := by decide +kernel
theorem dX10_track_54 : decode cX10_track 54 = .ok (.ldc_w 317, 3) := by decide +kernel
theorem dX10_track_57 : decode cX10_track 57 = .ok (.ireturn, 1) := by decide +kernel
theorem dX10_track_58 : decode cX10_track 58 = .ok (.aload_n 0, 1) := by decide +kernel
theorem dX10_track_59 : decode cX10_track 59 = .ok (.getfield 62, 3) := by decide +kernel
theorem dX10_track_62 : decode cX10_track 62 = .ok (.aload_n 0, 1) := by decide +kernel
theorem dX10_track_63 : decode cX10_track 63 = .ok (.getfield 10, 3) := by decide +kernel
theorem dX10_track_66 : decode cX10_track 66 = .ok (.iload_n 1, 1) := by decide +kernel
theorem dX10_track_67 : decode cX10_track 67 = .ok (.invokevirtual 318, 3) := by decide +kernel
theorem dX10_track_70 : decode cX10_track 70 = .ok (.ifCond .ne 7, 3) := by decide +kernel
theorem dX10_track_73 : decode cX10_track 73 = .ok (.ldc_w 317, 3) := by decide +kernel
theorem dX10_track_76 : decode cX10_track 76 = .ok (.ireturn, 1) := by decide +kernel
theorem dX10_track_77 : decode cX10_track 77 = .ok (.iload_n 2, 1) := by decide +kernel
theorem dX10_track_78 : decode cX10_track 78 = .ok (.bipush 10, 2) := by decide +kernel
theorem dX10_track_80 : decode cX10_track 80 = .ok (.if_icmp .ne 17, 3) := by decide +kernel
theorem dX10_track_83 : decode cX10_track 83 = .ok (.aload_n 0, 1) := by decide +kernel
theorem dX10_track_84 : decode cX10_track 84 = .ok (.getfield 62, 3) := by decide +kernel
theorem dX10_track_87 : decode cX10_track 87 = .ok (.aload_n 0, 1) := by decide +kernel
theorem dX10_track_88 : decode cX10_track 88 = .ok (.getfield 10, 3) := by decide +kernel
theorem dX10_track_91 : decode cX10_track 91 = .ok (.invokevirtual 322, 3) := by decide +kernel
theorem dX10_track_94 : decode cX10_track 94 = .ok (.goto 15, 3) := by decide +kernel
theorem dX10_track_97 : decode cX10_track 97 = .ok (.aload_n 0, 1) := by decide +kernel
theorem dX10_track_98 : decode cX10_track 98 = .ok (.getfield 62, 3) := by decide +kernel
theorem dX10_track_101 : decode cX10_track 101 = .ok (.aload_n 0, 1) := by decide +kernel
theorem dX10_track_102 : decode cX10_track 102 = .ok (.getfield 10, 3) := by decide +kernel
theorem dX10_track_105 : decode cX10_track 105 = .ok (.iload_n 2, 1) := by decide +kernel
theorem dX10_track_106 : decode cX10_track 106 = .ok (.invokevirtual 325, 3) := by decide +kernel
theorem dX10_track_109 : decode cX10_track 109 = .ok (.ireturn, 1) := by decide +kernel
set_option maxRecDepth 20000 in
theorem ggX10_order_X10_isWithin : GoodIn wsX10_order wsX10_isWithin := goodIn_r _ [9] (by decide +kernel) (by decide +kernel)
set_option maxRecDepth 20000 in
theorem gX10_order_X10_isWithin : GoodIn wsX10_order (va_wsS RX10 142 yX10_isWithin wsX10_isWithin) := goodIn_app (goodIn_of _ (by decide +kernel)) ggX10_order_X10_isWithin
set_option maxRecDepth 20000 in
theorem ggX10_order_X2_arrange : GoodIn wsX10_order wsX2_arrange := goodIn_r _ [14, 15, 16, 17, 18, 19, 20, 21, 22, 23, 24, 25, 13, 26, 27, 28, 29, 30, 31, 32, 33, 34, 35, 36, 37, 8, 38, 39, 40, 41, 42, 43, 44, 45, 46, 47, 48, 49, 50, 51, 52, 53, 54, 55, 56, 57, 58, 59, 60, 61, 62, 63, 64, 65, 66, 94, 95, 96, 97, 98, 99, 81, 82, 83, 84, 85, 86, 87, 88, 89, 90, 91, 92, 93] (by decide +kernel) (by decide +kernel)
set_option maxRecDepth 20000 in
theorem gX10_order_X2_arrange : GoodIn wsX10_order (wsV RX10 328 RX2 yX2_arrange wsX2_arrange) := goodIn_app (goodIn_of _ (by decide +kernel)) ggX10_order_X2_arrange
theorem dX10_order_0 : decode cX10_order 0 = .ok (.iload_n 1, 1) := by decide +kernel
theorem dX10_order_1 : decode cX10_order 1 = .ok (.iconst 1, 1) := by decide +kernel
theorem dX10_order_2 : decode cX10_order 2 = .ok (.bipush 64, 2) := by decide +kernel
theorem dX10_order_4 : decode cX10_order 4 = .ok (.invokestatic 142, 3) := by decide +kernel
theorem dX10_order_7 : decode cX10_order 7 = .ok (.ifCond .eq 13, 3) := by decide +kernel
theorem dX10_order_10 : decode cX10_order 10 = .ok (.aload_n 0, 1) := by decide +kernel
theorem dX10_order_11 : decode cX10_order 11 = .ok (.getfield 10, 3) := by decide +kernel
theorem dX10_order_14 : decode cX10_order 14 = .ok (.getfield 122, 3) := by decide +kernel
theorem dX10_order_17 : decode cX10_order 17 = .ok (.ifCond .ne 5, 3) := by decide +kernel
theorem dX10_order_20 : decode cX10_order 20 = .ok (.iconst (-1), 1) := by decide +kernel
theorem dX10_order_21 : decode cX10_order 21 = .ok (.ireturn, 1) := by decide +kernel
theorem dX10_order_22 : decode cX10_order 22 = .ok (.iload_n 2, 1) := by decide +kernel
theorem dX10_order_23 : decode cX10_order 23 = .ok (.ifCond .eq 26, 3) := by decide +kernel
theorem dX10_order_26 : decode cX10_order 26 = .ok (.iload_n 2, 1) := by decide +kernel
theorem dX10_order_27 : decode cX10_order 27 = .ok (.bipush 10, 2) := by decide +kernel
theorem dX10_order_29 : decode cX10_order 29 = .ok (.bipush 10, 2) := by decide +kernel
theorem dX10_order_31 : decode cX10_order 31 = .ok (.aload_n 0, 1) := by decide +kernel
theorem dX10_order_32 : decode cX10_order 32 = .ok (.getfield 10, 3) := by decide +kernel
theorem dX10_order_35 : decode cX10_order 35 = .ok (.getfield 122, 3) := by decide +kernel
theorem dX10_order_38 : decode cX10_order 38 = .ok (.iadd, 1) := by decide +kernel
theorem dX10_order_39 : decode cX10_order 39 = .ok (.iconst 1, 1) := by decide +kernel
theorem dX10_order_40 : decode cX10_order 40 = .ok (.isub, 1) := by decide +kernel
theorem dX10_order_41 : decode cX10_order 41 = .ok (.invokestatic 142, 3) := by decide +kernel
theorem dX10_order_44 : decode cX10_order 44 = .ok (.ifCond .ne 5, 3) := by decide +kernel
theorem dX10_order_47 : decode cX10_order 47 = .ok (.iconst (-1), 1) := by decide +kernel
theorem dX10_order_48 : decode cX10_order 48 = .ok (.ireturn, 1) := by decide +kernel
theorem dX10_order_49 : decode cX10_order 49 = .ok (.aload_n 0, 1) := by decide +kernel
theorem dX10_order_50 : decode cX10_order 50 = .ok (.getfield 69, 3) := by decide +kernel
theorem dX10_order_53 : decode cX10_order 53 = .ok (.aload_n 0, 1) := by decide +kernel
theorem dX10_order_54 : decode cX10_order 54 = .ok (.getfield 10, 3) := by decide +kernel
theorem dX10_order_57 : decode cX10_order 57 = .ok (.iload_n 1, 1) := by decide +kernel
theorem dX10_order_58 : decode cX10_order 58 = .ok (.invokevirtual 328, 3) := by decide +kernel
theorem dX10_order_61 : decode cX10_order 61 = .ok (.iload_n 2, 1) := by decide +kernel
theorem dX10_order_62 : decode cX10_order 62 = .ok (.ifCond .ne 13, 3) := by decide +kernel
theorem dX10_order_65 : decode cX10_order 65 = .ok (.aload_n 0, 1) := by decide +kernel
theorem dX10_order_66 : decode cX10_order 66 = .ok (.getfield 69, 3) := by decide +kernel
theorem dX10_order_69 : decode cX10_order 69 = .ok (.getfield 332, 3) := by decide +kernel
theorem dX10_order_72 : decode cX10_order 72 = .ok (.goto 15, 3) := by decide +kernel
theorem dX10_order_75 : decode cX10_order 75 = .ok (.aload_n 0, 1) := by decide +kernel
theorem dX10_order_76 : decode cX10_order 76 = .ok (.getfield 69, 3) := by decide +kernel
theorem dX10_order_79 : decode cX10_order 79 = .ok (.getfield 335, 3) := by decide +kernel
theorem dX10_order_82 : decode cX10_order 82 = .ok (.iload_n 2, 1) := by decide +kernel
theorem dX10_order_83 : decode cX10_order 83 = .ok (.bipush 10, 2) := by decide +kernel
theorem dX10_order_85 : decode cX10_order 85 = .ok (.isub, 1) := by decide +kernel
theorem dX10_order_86 : decode cX10_order 86 = .ok (.iaload, 1) := by decide +kernel
theorem dX10_order_87 : decode cX10_order 87 = .ok (.ireturn, 1) := by decide +kernel
set_option maxRecDepth 20000 in
theorem ggX10_choose_X10_isWithin : GoodIn wsX10_choose wsX10_isWithin := goodIn_r _ [9] (by decide +kernel) (by decide +kernel)
set_option maxRecDepth 20000 in
theorem gX10_choose_X10_isWithin : GoodIn wsX10_choose (va_wsS RX10 142 yX10_isWithin wsX10_isWithin) := goodIn_app (goodIn_of _ (by decide +kernel)) ggX10_choose_X10_isWithin
set_option maxRecDepth 20000 in
theorem ggX10_choose_X10_isGap : GoodIn wsX10_choose wsX10_isGap := goodIn_r _ [12, 6, 7, 8, 9] (by decide +kernel) (by decide +kernel)
set_option maxRecDepth 20000 in
theorem gX10_choose_X10_isGap : GoodIn wsX10_choose (va_wsS RX10 135 yX10_isGap wsX10_isGap) := goodIn_app (goodIn_of _ (by decide +kernel)) ggX10_choose_X10_isGap
set_option maxRecDepth 20000 in
theorem ggX10_choose_X1_searchAll : GoodIn wsX10_choose wsX1_searchAll := goodIn_r _ [17, 18, 19, 20, 21, 22, 23, 24, 25, 26, 27, 28, 29, 30, 31, 32, 33, 34, 35, 36, 37, 38, 39, 40, 16, 41, 42, 43, 44, 45, 46, 47, 48, 49, 50, 51, 52, 53, 8, 54, 55, 56, 57, 58, 59, 60, 61, 62, 63, 64, 65, 66, 67, 68, 69, 70, 71, 72, 73, 74, 75, 76, 77, 78, 79, 80, 95, 96, 97, 98, 99, 100, 101, 102, 103, 104, 105, 106, 107, 108, 109, 110, 111, 112, 113, 114, 115, 116, 117, 118, 119, 120] (by decide +kernel) (by decide +kernel)
set_option maxRecDepth 20000 in
theorem gX10_choose_X1_searchAll : GoodIn wsX10_choose (wsV RX10 338 RX1 yX1_searchAll wsX1_searchAll) := goodIn_app (goodIn_of _ (by decide +kernel)) ggX10_choose_X1_searchAll
theorem dX10_choose_0 : decode cX10_choose 0 = .ok (.iload_n 1, 1) := by decide +kernel
theorem dX10_choose_1 : decode cX10_choose 1 = .ok (.iconst 2, 1) := by decide +kernel
theorem dX10_choose_2 : decode cX10_choose 2 = .ok (.iconst 4, 1) := by decide +kernel
theorem dX10_choose_3 : decode cX10_choose 3 = .ok (.invokestatic 142, 3) := by decide +kernel
theorem dX10_choose_6 : decode cX10_choose 6 = .ok (.ifCond .eq 17, 3) := by decide +kernel
theorem dX10_choose_9 : decode cX10_choose 9 = .ok (.iload_n 2, 1) := by decide +kernel
theorem dX10_choose_10 : decode cX10_choose 10 = .ok (.invokestatic 135, 3) := by decide +kernel
theorem dX10_choose_13 : decode cX10_choose 13 = .ok (.ifCond .eq 10, 3) := by decide +kernel
theorem dX10_choose_16 : decode cX10_choose 16 = .ok (.iload_n 3, 1) := by decide +kernel
theorem dX10_choose_17 : decode cX10_choose 17 = .ok (.invokestatic 135, 3) := by decide +kernel
theorem dX10_choose_20 : decode cX10_choose 20 = .ok (.ifCond .ne 5, 3) := by decide +kernel
theorem dX10_choose_23 : decode cX10_choose 23 = .ok (.iconst (-1), 1) := by decide +kernel
theorem dX10_choose_24 : decode cX10_choose 24 = .ok (.ireturn, 1) := by decide +kernel
theorem dX10_choose_25 : decode cX10_choose 25 = .ok (.iload_n 3, 1) := by decide +kernel
theorem dX10_choose_26 : decode cX10_choose 26 = .ok (.iload_n 2, 1) := by decide +kernel
theorem dX10_choose_27 : decode cX10_choose 27 = .ok (.isub, 1) := by decide +kernel
theorem dX10_choose_28 : decode cX10_choose 28 = .ok (.iconst 0, 1) := by decide +kernel
theorem dX10_choose_29 : decode cX10_choose 29 = .ok (.bipush 20, 2) := by decide +kernel
theorem dX10_choose_31 : decode cX10_choose 31 = .ok (.invokestatic 142, 3) := by decide +kernel
theorem dX10_choose_34 : decode cX10_choose 34 = .ok (.ifCond .ne 5, 3) := by decide +kernel
theorem dX10_choose_37 : decode cX10_choose 37 = .ok (.iconst (-1), 1) := by decide +kernel
theorem dX10_choose_38 : decode cX10_choose 38 = .ok (.ireturn, 1) := by decide +kernel
theorem dX10_choose_39 : decode cX10_choose 39 = .ok (.iload 4, 2) := by decide +kernel
theorem dX10_choose_41 : decode cX10_choose 41 = .ok (.iconst 0, 1) := by decide +kernel
theorem dX10_choose_42 : decode cX10_choose 42 = .ok (.iconst 1, 1) := by decide +kernel
theorem dX10_choose_43 : decode cX10_choose 43 = .ok (.invokestatic 142, 3) := by decide +kernel
theorem dX10_choose_46 : decode cX10_choose 46 = .ok (.ifCond .ne 21, 3) := by decide +kernel
theorem dX10_choose_49 : decode cX10_choose 49 = .ok (.iload 4, 2) := by decide +kernel
theorem dX10_choose_51 : decode cX10_choose 51 = .ok (.bipush 10, 2) := by decide +kernel
theorem dX10_choose_53 : decode cX10_choose 53 = .ok (.bipush 10, 2) := by decide +kernel
theorem dX10_choose_55 : decode cX10_choose 55 = .ok (.iload_n 1, 1) := by decide +kernel
theorem dX10_choose_56 : decode cX10_choose 56 = .ok (.iadd, 1) := by decide +kernel
theorem dX10_choose_57 : decode cX10_choose 57 = .ok (.iconst 1, 1) := by decide +kernel
theorem dX10_choose_58 : decode cX10_choose 58 = .ok (.isub, 1) := by decide +kernel
theorem dX10_choose_59 : decode cX10_choose 59 = .ok (.invokestatic 142, 3) := by decide +kernel
theorem dX10_choose_62 : decode cX10_choose 62 = .ok (.ifCond .ne 5, 3) := by decide +kernel
theorem dX10_choose_65 : decode cX10_choose 65 = .ok (.iconst (-1), 1) := by decide +kernel
theorem dX10_choose_66 : decode cX10_choose 66 = .ok (.ireturn, 1) := by decide +kernel
theorem dX10_choose_67 : decode cX10_choose 67 = .ok (.aload_n 0, 1) := by decide +kernel
theorem dX10_choose_68 : decode cX10_choose 68 = .ok (.getfield 76, 3) := by decide +kernel
theorem dX10_choose_71 : decode cX10_choose 71 = .ok (.aload_n 0, 1) := by decide +kernel
theorem dX10_choose_72 : decode cX10_choose 72 = .ok (.getfield 10, 3) := by decide +kernel
theorem dX10_choose_75 : decode cX10_choose 75 = .ok (.iload_n 1, 1) := by decide +kernel
theorem dX10_choose_76 : decode cX10_choose 76 = .ok (.iload_n 2, 1) := by decide +kernel
theorem dX10_choose_77 : decode cX10_choose 77 = .ok (.iload_n 3, 1) := by decide +kernel
theorem dX10_choose_78 : decode cX10_choose 78 = .ok (.invokevirtual 338, 3) := by decide +kernel
theorem dX10_choose_81 : decode cX10_choose 81 = .ok (.iload 4, 2) := by decide +kernel
theorem dX10_choose_83 : decode cX10_choose 83 = .ok (.ifCond .ne 11, 3) := by decide +kernel
theorem dX10_choose_86 : decode cX10_choose 86 = .ok (.aload_n 0, 1) := by decide +kernel
theorem dX10_choose_87 : decode cX10_choose 87 = .ok (.getfield 76, 3) := by decide +kernel
theorem dX10_choose_90 : decode cX10_choose 90 = .ok (.getfield 342, 3) := by decide +kernel
theorem dX10_choose_93 : decode cX10_choose 93 = .ok (.ireturn, 1) := by decide +kernel
theorem dX10_choose_94 : decode cX10_choose 94 = .ok (.aload_n 0, 1) := by decide +kernel
theorem dX10_choose_95 : decode cX10_choose 95 = .ok (.getfield 76, 3) := by decide +kernel
theorem dX10_choose_98 : decode cX10_choose 98 = .ok (.getfield 342, 3) := by decide +kernel
theorem dX10_choose_101 : decode cX10_choose 101 = .ok (.ifCond .ne 5, 3) := by decide +kernel
theorem dX10_choose_104 : decode cX10_choose 104 = .ok (.iconst (-1), 1) := by decide +kernel
theorem dX10_choose_105 : decode cX10_choose 105 = .ok (.ireturn, 1) := by decide +kernel
theorem dX10_choose_106 : decode cX10_choose 106 = .ok (.iload 4, 2) := by decide +kernel
theorem dX10_choose_108 : decode cX10_choose 108 = .ok (.iconst 1, 1) := by decide +kernel
theorem dX10_choose_109 : decode cX10_choose 109 = .ok (.if_icmp .ne 13, 3) := by decide +kernel
theorem dX10_choose_112 : decode cX10_choose 112 = .ok (.aload_n 0, 1) := by decide +kernel
theorem dX10_choose_113 : decode cX10_choose 113 = .ok (.getfield 76, 3) := by decide +kernel
theorem dX10_choose_116 : decode cX10_choose 116 = .ok (.getfield 345, 3) := by decide +kernel
theorem dX10_choose_119 : decode cX10_choose 119 = .ok (.goto 16, 3) := by decide +kernel
theorem dX10_choose_122 : decode cX10_choose 122 = .ok (.aload_n 0, 1) := by decide +kernel
theorem dX10_choose_123 : decode cX10_choose 123 = .ok (.getfield 76, 3) := by decide +kernel
theorem dX10_choose_126 : decode cX10_choose 126 = .ok (.getfield 348, 3) := by decide +kernel
theorem dX10_choose_129 : decode cX10_choose 129 = .ok (.iload 4, 2) := by decide +kernel
theorem dX10_choose_131 : decode cX10_choose 131 = .ok (.bipush 10, 2) := by decide +kernel
theorem dX10_choose_133 : decode cX10_choose 133 = .ok (.isub, 1) := by decide +kernel
theorem dX10_choose_134 : decode cX10_choose 134 = .ok (.iaload, 1) := by decide +kernel
theorem dX10_choose_135 : decode cX10_choose 135 = .ok (.ireturn, 1) := by decide +kernel
set_option maxRecDepth 20000 in
theorem ggX10_more_X3_listen : GoodIn wsX10_more wsX3_listen := goodIn_r _ [9, 10, 11, 12, 13, 14, 8, 15, 16, 17, 18, 19, 20, 21, 22, 23, 24, 25, 26, 27, 28, 29, 30, 31, 32, 33, 34, 35, 36, 37, 38, 39, 40, 41, 42, 43, 44, 137, 138, 139, 140, 141, 142, 143, 144, 145, 146, 147, 148, 149, 150, 151, 152, 153, 154, 155] (by decide +kernel) (by decide +kernel)
set_option maxRecDepth 20000 in
theorem gX10_more_X3_listen : GoodIn wsX10_more (wsV RX10 184 RX3 yX3_listen wsX3_listen) := goodIn_app (goodIn_of _ (by decide +kernel)) ggX10_more_X3_listen
set_option maxRecDepth 20000 in
theorem ggX10_more_X0_weighGhosts : GoodIn wsX10_more wsX0_weighGhosts := goodIn_r _ [49, 50, 51, 52, 53, 54, 8, 55, 56, 10, 11, 57, 58, 59, 60, 61, 62, 63, 64, 17, 65, 66, 67, 68, 69, 70, 71, 72, 73, 74, 13, 14, 15, 16, 18, 19, 20, 21, 22, 23, 24, 25, 26, 27, 28, 29, 30, 31, 32, 33, 34, 35, 36, 37, 38, 39, 40, 41, 42, 43, 44, 75, 76, 77, 78, 79, 80, 81, 82, 83, 84, 85, 86, 87, 88, 89, 90, 91, 92, 93, 94, 137, 138, 139, 140, 141, 142, 143, 144, 145, 146, 147, 148, 149, 156, 150, 151, 152, 153, 154, 155] (by decide +kernel) (by decide +kernel)
set_option maxRecDepth 20000 in
theorem gX10_more_X0_weighGhosts : GoodIn wsX10_more (wsV RX10 349 RX0 yX0_weighGhosts wsX0_weighGhosts) := goodIn_app (goodIn_of _ (by decide +kernel)) ggX10_more_X0_weighGhosts
set_option maxRecDepth 20000 in
theorem ggX10_more_X0_weighDark : GoodIn wsX10_more wsX0_weighDark := goodIn_r _ [98, 51, 99, 100, 58, 59, 60, 101, 102, 103, 104, 105, 106, 107, 108, 109, 110, 41, 42, 29, 43, 31, 38, 21, 39, 111, 84, 85, 86, 87, 88, 89, 112, 156, 137, 138, 139, 140, 141, 142, 143, 144, 145, 146, 147, 148, 149] (by decide +kernel) (by decide +kernel)
set_option maxRecDepth 20000 in
theorem gX10_more_X0_weighDark : GoodIn wsX10_more (wsV RX10 353 RX0 yX0_weighDark wsX0_weighDark) := goodIn_app (goodIn_of _ (by decide +kernel)) ggX10_more_X0_weighDark
set_option maxRecDepth 20000 in
theorem ggX10_more_X0_bestGap : GoodIn wsX10_more wsX0_bestGap := goodIn_r _ [116, 51, 117, 118, 119, 29, 120, 121, 122, 156, 137, 138, 139, 140, 141, 142, 143, 144, 145, 146, 147, 148, 149] (by decide +kernel) (by decide +kernel)
set_option maxRecDepth 20000 in
theorem gX10_more_X0_bestGap : GoodIn wsX10_more (wsV RX10 356 RX0 yX0_bestGap wsX0_bestGap) := goodIn_app (goodIn_of _ (by decide +kernel)) ggX10_more_X0_bestGap
theorem dX10_more_0 : decode cX10_more 0 = .ok (.aload_n 0, 1) := by decide +kernel
theorem dX10_more_1 : decode cX10_more 1 = .ok (.getfield 10, 3) := by decide +kernel
theorem dX10_more_4 : decode cX10_more 4 = .ok (.getfield 122, 3) := by decide +kernel
theorem dX10_more_7 : decode cX10_more 7 = .ok (.iconst 5, 1) := by decide +kernel
theorem dX10_more_8 : decode cX10_more 8 = .ok (.if_icmp .lt 5, 3) := by decide +kernel
theorem dX10_more_11 : decode cX10_more 11 = .ok (.iconst (-1), 1) := by decide +kernel
theorem dX10_more_12 : decode cX10_more 12 = .ok (.ireturn, 1) := by decide +kernel
theorem dX10_more_13 : decode cX10_more 13 = .ok (.iload_n 1, 1) := by decide +kernel
theorem dX10_more_14 : decode cX10_more 14 = .ok (.ifCond .eq 32, 3) := by decide +kernel
theorem dX10_more_17 : decode cX10_more 17 = .ok (.aload_n 0, 1) := by decide +kernel
theorem dX10_more_18 : decode cX10_more 18 = .ok (.getfield 55, 3) := by decide +kernel
theorem dX10_more_21 : decode cX10_more 21 = .ok (.aload_n 0, 1) := by decide +kernel
theorem dX10_more_22 : decode cX10_more 22 = .ok (.getfield 10, 3) := by decide +kernel
theorem dX10_more_25 : decode cX10_more 25 = .ok (.invokevirtual 184, 3) := by decide +kernel
theorem dX10_more_28 : decode cX10_more 28 = .ok (.aload_n 0, 1) := by decide +kernel
theorem dX10_more_29 : decode cX10_more 29 = .ok (.getfield 83, 3) := by decide +kernel
theorem dX10_more_32 : decode cX10_more 32 = .ok (.aload_n 0, 1) := by decide +kernel
theorem dX10_more_33 : decode cX10_more 33 = .ok (.getfield 10, 3) := by decide +kernel
theorem dX10_more_36 : decode cX10_more 36 = .ok (.aload_n 0, 1) := by decide +kernel
theorem dX10_more_37 : decode cX10_more 37 = .ok (.getfield 55, 3) := by decide +kernel
theorem dX10_more_40 : decode cX10_more 40 = .ok (.invokevirtual 349, 3) := by decide +kernel
theorem dX10_more_43 : decode cX10_more 43 = .ok (.goto 14, 3) := by decide +kernel
theorem dX10_more_46 : decode cX10_more 46 = .ok (.aload_n 0, 1) := by decide +kernel
theorem dX10_more_47 : decode cX10_more 47 = .ok (.getfield 83, 3) := by decide +kernel
theorem dX10_more_50 : decode cX10_more 50 = .ok (.aload_n 0, 1) := by decide +kernel
theorem dX10_more_51 : decode cX10_more 51 = .ok (.getfield 10, 3) := by decide +kernel
theorem dX10_more_54 : decode cX10_more 54 = .ok (.invokevirtual 353, 3) := by decide +kernel
theorem dX10_more_57 : decode cX10_more 57 = .ok (.aload_n 0, 1) := by decide +kernel
theorem dX10_more_58 : decode cX10_more 58 = .ok (.getfield 83, 3) := by decide +kernel
theorem dX10_more_61 : decode cX10_more 61 = .ok (.aload_n 0, 1) := by decide +kernel
theorem dX10_more_62 : decode cX10_more 62 = .ok (.getfield 10, 3) := by decide +kernel
theorem dX10_more_65 : decode cX10_more 65 = .ok (.invokevirtual 356, 3) := by decide +kernel
theorem dX10_more_68 : decode cX10_more 68 = .ok (.ireturn, 1) := by decide +kernel
set_option maxRecDepth 20000 in
theorem ggX10_shaken_X10_isWithin : GoodIn wsX10_shaken wsX10_isWithin := goodIn_r _ [5] (by decide +kernel) (by decide +kernel)
set_option maxRecDepth 20000 in
theorem gX10_shaken_X10_isWithin : GoodIn wsX10_shaken (va_wsS RX10 142 yX10_isWithin wsX10_isWithin) := goodIn_app (goodIn_of _ (by decide +kernel)) ggX10_shaken_X10_isWithin
set_option maxRecDepth 20000 in
theorem ggX10_shaken_X7_countShaken : GoodIn wsX10_shaken wsX7_countShaken := goodIn_r _ [9, 10, 11, 12, 13, 14, 8, 15, 16, 17, 18, 19, 20, 21, 22, 4, 23, 38, 39, 40, 41, 42, 43, 44, 45, 46, 47, 48, 49, 50] (by decide +kernel) (by decide +kernel)
set_option maxRecDepth 20000 in
theorem gX10_shaken_X7_countShaken : GoodIn wsX10_shaken (va_wsS RX10 359 yX7_countShaken wsX7_countShaken) := goodIn_app (goodIn_of _ (by decide +kernel)) ggX10_shaken_X7_countShaken
theorem dX10_shaken_0 : decode cX10_shaken 0 = .ok (.iload_n 1, 1) := by decide +kernel
theorem dX10_shaken_1 : decode cX10_shaken 1 = .ok (.iconst 0, 1) := by decide +kernel
theorem dX10_shaken_2 : decode cX10_shaken 2 = .ok (.iconst 3, 1) := by decide +kernel
theorem dX10_shaken_3 : decode cX10_shaken 3 = .ok (.invokestatic 142, 3) := by decide +kernel
theorem dX10_shaken_6 : decode cX10_shaken 6 = .ok (.ifCond .eq 15, 3) := by decide +kernel
theorem dX10_shaken_9 : decode cX10_shaken 9 = .ok (.aload_n 0, 1) := by decide +kernel
theorem dX10_shaken_10 : decode cX10_shaken 10 = .ok (.getfield 10, 3) := by decide +kernel
theorem dX10_shaken_13 : decode cX10_shaken 13 = .ok (.iload_n 1, 1) := by decide +kernel
theorem dX10_shaken_14 : decode cX10_shaken 14 = .ok (.iload_n 2, 1) := by decide +kernel
theorem dX10_shaken_15 : decode cX10_shaken 15 = .ok (.invokestatic 359, 3) := by decide +kernel
theorem dX10_shaken_18 : decode cX10_shaken 18 = .ok (.goto 4, 3) := by decide +kernel
theorem dX10_shaken_21 : decode cX10_shaken 21 = .ok (.iconst (-1), 1) := by decide +kernel
theorem dX10_shaken_22 : decode cX10_shaken 22 = .ok (.ireturn, 1) := by decide +kernel
set_option maxRecDepth 20000 in
theorem ggX10_dwell_X10_isWithin : GoodIn wsX10_dwell wsX10_isWithin := goodIn_r _ [9] (by decide +kernel) (by decide +kernel)
set_option maxRecDepth 20000 in
theorem gX10_dwell_X10_isWithin : GoodIn wsX10_dwell (va_wsS RX10 142 yX10_isWithin wsX10_isWithin) := goodIn_app (goodIn_of _ (by decide +kernel)) ggX10_dwell_X10_isWithin
set_option maxRecDepth 20000 in
theorem ggX10_dwell_X2_takeGaps : GoodIn wsX10_dwell wsX2_takeGaps := goodIn_r _ [14, 15, 16, 17, 18, 19, 20, 21, 22, 78, 79, 80, 81, 82, 83, 84, 85, 86, 87, 88, 89, 90, 91, 92, 93, 94, 95, 96] (by decide +kernel) (by decide +kernel)
set_option maxRecDepth 20000 in
theorem gX10_dwell_X2_takeGaps : GoodIn wsX10_dwell (wsV RX10 362 RX2 yX2_takeGaps wsX2_takeGaps) := goodIn_app (goodIn_of _ (by decide +kernel)) ggX10_dwell_X2_takeGaps
set_option maxRecDepth 20000 in
theorem ggX10_dwell_X2_send : GoodIn wsX10_dwell wsX2_send := goodIn_r _ [26, 27, 28, 29, 18, 16, 30, 8, 31, 91, 92, 93, 94, 95, 96] (by decide +kernel) (by decide +kernel)
set_option maxRecDepth 20000 in
theorem gX10_dwell_X2_send : GoodIn wsX10_dwell (wsV RX10 365 RX2 yX2_send wsX2_send) := goodIn_app (goodIn_of _ (by decide +kernel)) ggX10_dwell_X2_send
set_option maxRecDepth 20000 in
theorem ggX10_dwell_X2_lastSent : GoodIn wsX10_dwell wsX2_lastSent := goodIn_r _ [35, 27, 28, 91, 92, 93, 94, 95, 96] (by decide +kernel) (by decide +kernel)
set_option maxRecDepth 20000 in
theorem gX10_dwell_X2_lastSent : GoodIn wsX10_dwell (wsV RX10 368 RX2 yX2_lastSent wsX2_lastSent) := goodIn_app (goodIn_of _ (by decide +kernel)) ggX10_dwell_X2_lastSent
set_option maxRecDepth 20000 in
theorem ggX10_dwell_X2_countClear : GoodIn wsX10_dwell wsX2_countClear := goodIn_r _ [39, 40, 27, 28, 41, 42, 43, 44, 45, 46, 78, 79, 80, 81, 82, 83, 84, 85, 86, 87, 88, 89, 90, 91, 92, 93, 94, 95, 96] (by decide +kernel) (by decide +kernel)
set_option maxRecDepth 20000 in
theorem gX10_dwell_X2_countClear : GoodIn wsX10_dwell (wsV RX10 372 RX2 yX2_countClear wsX2_countClear) := goodIn_app (goodIn_of _ (by decide +kernel)) ggX10_dwell_X2_countClear
set_option maxRecDepth 20000 in
theorem ggX10_dwell_X2_countHidden : GoodIn wsX10_dwell wsX2_countHidden := goodIn_r _ [50, 40, 51, 41, 42, 43, 44, 45, 46, 52, 53, 54, 13, 55, 56, 57, 58, 59, 27, 28, 78, 79, 80, 81, 82, 83, 84, 85, 86, 87, 88, 89, 90, 91, 92, 93, 94, 95, 96] (by decide +kernel) (by decide +kernel)
set_option maxRecDepth 20000 in
theorem gX10_dwell_X2_countHidden : GoodIn wsX10_dwell (wsV RX10 376 RX2 yX2_countHidden wsX2_countHidden) := goodIn_app (goodIn_of _ (by decide +kernel)) ggX10_dwell_X2_countHidden
set_option maxRecDepth 20000 in
theorem ggX10_dwell_X2_longestGap : GoodIn wsX10_dwell wsX2_longestGap := goodIn_r _ [63, 27, 28, 56, 57, 58, 59, 91, 92, 93, 94, 95, 96] (by decide +kernel) (by decide +kernel)
set_option maxRecDepth 20000 in
theorem gX10_dwell_X2_longestGap : GoodIn wsX10_dwell (wsV RX10 379 RX2 yX2_longestGap wsX2_longestGap) := goodIn_app (goodIn_of _ (by decide +kernel)) ggX10_dwell_X2_longestGap
theorem dX10_dwell_0 : decode cX10_dwell 0 = .ok (.iload_n 2, 1) := by decide +kernel
theorem dX10_dwell_1 : decode cX10_dwell 1 = .ok (.iconst 1, 1) := by decide +kernel
theorem dX10_dwell_2 : decode cX10_dwell 2 = .ok (.bipush 64, 2) := by decide +kernel
theorem dX10_dwell_4 : decode cX10_dwell 4 = .ok (.invokestatic 142, 3) := by decide +kernel
theorem dX10_dwell_7 : decode cX10_dwell 7 = .ok (.ifCond .eq 22, 3) := by decide +kernel
theorem dX10_dwell_10 : decode cX10_dwell 10 = .ok (.iload_n 3, 1) := by decide +kernel
theorem dX10_dwell_11 : decode cX10_dwell 11 = .ok (.iconst 0, 1) := by decide +kernel
theorem dX10_dwell_12 : decode cX10_dwell 12 = .ok (.iconst 3, 1) := by decide +kernel
theorem dX10_dwell_13 : decode cX10_dwell 13 = .ok (.invokestatic 142, 3) := by decide +kernel
theorem dX10_dwell_16 : decode cX10_dwell 16 = .ok (.ifCond .eq 13, 3) := by decide +kernel
theorem dX10_dwell_19 : decode cX10_dwell 19 = .ok (.aload_n 0, 1) := by decide +kernel
theorem dX10_dwell_20 : decode cX10_dwell 20 = .ok (.getfield 10, 3) := by decide +kernel
theorem dX10_dwell_23 : decode cX10_dwell 23 = .ok (.getfield 122, 3) := by decide +kernel
theorem dX10_dwell_26 : decode cX10_dwell 26 = .ok (.ifCond .ne 5, 3) := by decide +kernel
theorem dX10_dwell_29 : decode cX10_dwell 29 = .ok (.iconst (-1), 1) := by decide +kernel
theorem dX10_dwell_30 : decode cX10_dwell 30 = .ok (.ireturn, 1) := by decide +kernel
theorem dX10_dwell_31 : decode cX10_dwell 31 = .ok (.aload_n 0, 1) := by decide +kernel
theorem dX10_dwell_32 : decode cX10_dwell 32 = .ok (.getfield 69, 3) := by decide +kernel
theorem dX10_dwell_35 : decode cX10_dwell 35 = .ok (.aload_n 0, 1) := by decide +kernel
theorem dX10_dwell_36 : decode cX10_dwell 36 = .ok (.getfield 10, 3) := by decide +kernel
theorem dX10_dwell_39 : decode cX10_dwell 39 = .ok (.invokevirtual 362, 3) := by decide +kernel
theorem dX10_dwell_42 : decode cX10_dwell 42 = .ok (.aload_n 0, 1) := by decide +kernel
theorem dX10_dwell_43 : decode cX10_dwell 43 = .ok (.getfield 69, 3) := by decide +kernel
theorem dX10_dwell_46 : decode cX10_dwell 46 = .ok (.iload_n 2, 1) := by decide +kernel
theorem dX10_dwell_47 : decode cX10_dwell 47 = .ok (.iload_n 1, 1) := by decide +kernel
theorem dX10_dwell_48 : decode cX10_dwell 48 = .ok (.iload_n 3, 1) := by decide +kernel
theorem dX10_dwell_49 : decode cX10_dwell 49 = .ok (.invokevirtual 365, 3) := by decide +kernel
theorem dX10_dwell_52 : decode cX10_dwell 52 = .ok (.iload 4, 2) := by decide +kernel
theorem dX10_dwell_54 : decode cX10_dwell 54 = .ok (.tableswitch 99 0 4 #[34, 42, 54, 76, 91], 34) := by decide +kernel
theorem dX10_dwell_88 : decode cX10_dwell 88 = .ok (.aload_n 0, 1) := by decide +kernel
theorem dX10_dwell_89 : decode cX10_dwell 89 = .ok (.getfield 69, 3) := by decide +kernel
theorem dX10_dwell_92 : decode cX10_dwell 92 = .ok (.invokevirtual 368, 3) := by decide +kernel
theorem dX10_dwell_95 : decode cX10_dwell 95 = .ok (.ireturn, 1) := by decide +kernel
theorem dX10_dwell_96 : decode cX10_dwell 96 = .ok (.aload_n 0, 1) := by decide +kernel
theorem dX10_dwell_97 : decode cX10_dwell 97 = .ok (.getfield 69, 3) := by decide +kernel
theorem dX10_dwell_100 : decode cX10_dwell 100 = .ok (.aload_n 0, 1) := by decide +kernel
theorem dX10_dwell_101 : decode cX10_dwell 101 = .ok (.getfield 10, 3) := by decide +kernel
theorem dX10_dwell_104 : decode cX10_dwell 104 = .ok (.invokevirtual 372, 3) := by decide +kernel
theorem dX10_dwell_107 : decode cX10_dwell 107 = .ok (.ireturn, 1) := by decide +kernel
theorem dX10_dwell_108 : decode cX10_dwell 108 = .ok (.iload_n 2, 1) := by decide +kernel
theorem dX10_dwell_109 : decode cX10_dwell 109 = .ok (.aload_n 0, 1) := by decide +kernel
theorem dX10_dwell_110 : decode cX10_dwell 110 = .ok (.getfield 10, 3) := by decide +kernel
theorem dX10_dwell_113 : decode cX10_dwell 113 = .ok (.getfield 158, 3) := by decide +kernel
theorem dX10_dwell_116 : decode cX10_dwell 116 = .ok (.imul, 1) := by decide +kernel
theorem dX10_dwell_117 : decode cX10_dwell 117 = .ok (.aload_n 0, 1) := by decide +kernel
theorem dX10_dwell_118 : decode cX10_dwell 118 = .ok (.getfield 69, 3) := by decide +kernel
theorem dX10_dwell_121 : decode cX10_dwell 121 = .ok (.aload_n 0, 1) := by decide +kernel
theorem dX10_dwell_122 : decode cX10_dwell 122 = .ok (.getfield 10, 3) := by decide +kernel
theorem dX10_dwell_125 : decode cX10_dwell 125 = .ok (.invokevirtual 372, 3) := by decide +kernel
theorem dX10_dwell_128 : decode cX10_dwell 128 = .ok (.isub, 1) := by decide +kernel
theorem dX10_dwell_129 : decode cX10_dwell 129 = .ok (.ireturn, 1) := by decide +kernel
theorem dX10_dwell_130 : decode cX10_dwell 130 = .ok (.aload_n 0, 1) := by decide +kernel
theorem dX10_dwell_131 : decode cX10_dwell 131 = .ok (.getfield 69, 3) := by decide +kernel
theorem dX10_dwell_134 : decode cX10_dwell 134 = .ok (.aload_n 0, 1) := by decide +kernel
theorem dX10_dwell_135 : decode cX10_dwell 135 = .ok (.getfield 10, 3) := by decide +kernel
theorem dX10_dwell_138 : decode cX10_dwell 138 = .ok (.ldc_w 375, 3) := by decide +kernel
theorem dX10_dwell_141 : decode cX10_dwell 141 = .ok (.invokevirtual 376, 3) := by decide +kernel
theorem dX10_dwell_144 : decode cX10_dwell 144 = .ok (.ireturn, 1) := by decide +kernel
theorem dX10_dwell_145 : decode cX10_dwell 145 = .ok (.aload_n 0, 1) := by decide +kernel
theorem dX10_dwell_146 : decode cX10_dwell 146 = .ok (.getfield 69, 3) := by decide +kernel
theorem dX10_dwell_149 : decode cX10_dwell 149 = .ok (.invokevirtual 379, 3) := by decide +kernel
theorem dX10_dwell_152 : decode cX10_dwell 152 = .ok (.ireturn, 1) := by decide +kernel
theorem dX10_dwell_153 : decode cX10_dwell 153 = .ok (.iconst (-1), 1) := by decide +kernel
theorem dX10_dwell_154 : decode cX10_dwell 154 = .ok (.ireturn, 1) := by decide +kernel
set_option maxRecDepth 20000 in
theorem ggX10_until_X5_hasTarget : GoodIn wsX10_until wsX5_hasTarget := goodIn_r _ [6, 7, 51, 52, 53, 54, 55, 56, 57, 58, 59, 60, 61, 62, 63] (by decide +kernel) (by decide +kernel)
set_option maxRecDepth 20000 in
theorem gX10_until_X5_hasTarget : GoodIn wsX10_until (wsV RX10 165 RX5 yX5_hasTarget wsX5_hasTarget) := goodIn_app (goodIn_of _ (by decide +kernel)) ggX10_until_X5_hasTarget
set_option maxRecDepth 20000 in
theorem ggX10_until_X10_isWithin : GoodIn wsX10_until wsX10_isWithin := goodIn_r _ [11] (by decide +kernel) (by decide +kernel)
set_option maxRecDepth 20000 in
theorem gX10_until_X10_isWithin : GoodIn wsX10_until (va_wsS RX10 142 yX10_isWithin wsX10_isWithin) := goodIn_app (goodIn_of _ (by decide +kernel)) ggX10_until_X10_isWithin
set_option maxRecDepth 20000 in
theorem ggX10_until_X5_findsAfter : GoodIn wsX10_until wsX5_findsAfter := goodIn_r _ [15, 16, 17, 18, 19, 20, 21, 22, 5, 23, 24, 25, 9, 10, 11, 26, 27, 28, 29, 30, 31, 7, 32, 33, 34, 35, 36, 51, 52, 53, 54, 55, 56, 57, 58, 59, 60, 61, 62, 63] (by decide +kernel) (by decide +kernel)
set_option maxRecDepth 20000 in
theorem gX10_until_X5_findsAfter : GoodIn wsX10_until (wsV RX10 382 RX5 yX5_findsAfter wsX5_findsAfter) := goodIn_app (goodIn_of _ (by decide +kernel)) ggX10_until_X5_findsAfter
theorem dX10_until_0 : decode cX10_until 0 = .ok (.aload_n 0, 1) := by decide +kernel
theorem dX10_until_1 : decode cX10_until 1 = .ok (.getfield 10, 3) := by decide +kernel
theorem dX10_until_4 : decode cX10_until 4 = .ok (.iload_n 1, 1) := by decide +kernel
theorem dX10_until_5 : decode cX10_until 5 = .ok (.invokevirtual 165, 3) := by decide +kernel
theorem dX10_until_8 : decode cX10_until 8 = .ok (.ifCond .eq 14, 3) := by decide +kernel
theorem dX10_until_11 : decode cX10_until 11 = .ok (.iload_n 2, 1) := by decide +kernel
theorem dX10_until_12 : decode cX10_until 12 = .ok (.iconst 0, 1) := by decide +kernel
theorem dX10_until_13 : decode cX10_until 13 = .ok (.sipush 200, 3) := by decide +kernel
theorem dX10_until_16 : decode cX10_until 16 = .ok (.invokestatic 142, 3) := by decide +kernel
theorem dX10_until_19 : decode cX10_until 19 = .ok (.ifCond .ne 5, 3) := by decide +kernel
theorem dX10_until_22 : decode cX10_until 22 = .ok (.iconst (-1), 1) := by decide +kernel
theorem dX10_until_23 : decode cX10_until 23 = .ok (.ireturn, 1) := by decide +kernel
theorem dX10_until_24 : decode cX10_until 24 = .ok (.iconst 0, 1) := by decide +kernel
theorem dX10_until_25 : decode cX10_until 25 = .ok (.istore_n 3, 1) := by decide +kernel
theorem dX10_until_26 : decode cX10_until 26 = .ok (.iload_n 3, 1) := by decide +kernel
theorem dX10_until_27 : decode cX10_until 27 = .ok (.iload_n 2, 1) := by decide +kernel
theorem dX10_until_28 : decode cX10_until 28 = .ok (.if_icmp .gt 23, 3) := by decide +kernel
theorem dX10_until_31 : decode cX10_until 31 = .ok (.aload_n 0, 1) := by decide +kernel
theorem dX10_until_32 : decode cX10_until 32 = .ok (.getfield 10, 3) := by decide +kernel
theorem dX10_until_35 : decode cX10_until 35 = .ok (.iload_n 1, 1) := by decide +kernel
theorem dX10_until_36 : decode cX10_until 36 = .ok (.iload_n 3, 1) := by decide +kernel
theorem dX10_until_37 : decode cX10_until 37 = .ok (.invokevirtual 382, 3) := by decide +kernel
theorem dX10_until_40 : decode cX10_until 40 = .ok (.ifCond .eq 5, 3) := by decide +kernel
theorem dX10_until_43 : decode cX10_until 43 = .ok (.iload_n 3, 1) := by decide +kernel
theorem dX10_until_44 : decode cX10_until 44 = .ok (.ireturn, 1) := by decide +kernel
theorem dX10_until_45 : decode cX10_until 45 = .ok (.iinc 3 1, 3) := by decide +kernel
theorem dX10_until_48 : decode cX10_until 48 = .ok (.goto (-22), 3) := by decide +kernel
theorem dX10_until_51 : decode cX10_until 51 = .ok (.iconst (-1), 1) := by decide +kernel
theorem dX10_until_52 : decode cX10_until 52 = .ok (.ireturn, 1) := by decide +kernel
set_option maxRecDepth 20000 in
theorem ggX10_image_X10_isWithin : GoodIn wsX10_image wsX10_isWithin := goodIn_r _ [9] (by decide +kernel) (by decide +kernel)
set_option maxRecDepth 20000 in
theorem gX10_image_X10_isWithin : GoodIn wsX10_image (va_wsS RX10 142 yX10_isWithin wsX10_isWithin) := goodIn_app (goodIn_of _ (by decide +kernel)) ggX10_image_X10_isWithin
set_option maxRecDepth 20000 in
theorem ggX10_image_X5_copyFrom : GoodIn wsX10_image wsX5_copyFrom := goodIn_r _ [14, 15, 16, 17, 18, 19, 20, 21, 22, 23, 24, 25, 26, 27, 28, 29, 30, 31, 56, 57, 58, 59, 60, 61, 62, 63, 64, 65, 66, 67, 68] (by decide +kernel) (by decide +kernel)
set_option maxRecDepth 20000 in
theorem gX10_image_X5_copyFrom : GoodIn wsX10_image (wsV RX10 115 RX5 yX5_copyFrom wsX5_copyFrom) := goodIn_app (goodIn_of _ (by decide +kernel)) ggX10_image_X5_copyFrom
set_option maxRecDepth 20000 in
theorem ggX10_image_X8_copyFrom : GoodIn wsX10_image wsX8_copyFrom := goodIn_r _ [36, 37, 38, 17, 18, 19, 39, 40, 41, 69, 70, 71, 72] (by decide +kernel) (by decide +kernel)
set_option maxRecDepth 20000 in
theorem gX10_image_X8_copyFrom : GoodIn wsX10_image (wsV RX10 386 RX8 yX8_copyFrom wsX8_copyFrom) := goodIn_app (goodIn_of _ (by decide +kernel)) ggX10_image_X8_copyFrom
theorem dX10_image_0 : decode cX10_image 0 = .ok (.iload_n 1, 1) := by decide +kernel
theorem dX10_image_1 : decode cX10_image 1 = .ok (.iconst 0, 1) := by decide +kernel
theorem dX10_image_2 : decode cX10_image 2 = .ok (.iconst 2, 1) := by decide +kernel
theorem dX10_image_3 : decode cX10_image 3 = .ok (.invokestatic 142, 3) := by decide +kernel
theorem dX10_image_6 : decode cX10_image 6 = .ok (.ifCond .ne 5, 3) := by decide +kernel
theorem dX10_image_9 : decode cX10_image 9 = .ok (.iconst 0, 1) := by decide +kernel
theorem dX10_image_10 : decode cX10_image 10 = .ok (.ireturn, 1) := by decide +kernel
theorem dX10_image_11 : decode cX10_image 11 = .ok (.aload_n 0, 1) := by decide +kernel
theorem dX10_image_12 : decode cX10_image 12 = .ok (.getfield 40, 3) := by decide +kernel
theorem dX10_image_15 : decode cX10_image 15 = .ok (.iload_n 1, 1) := by decide +kernel
theorem dX10_image_16 : decode cX10_image 16 = .ok (.aaload, 1) := by decide +kernel
theorem dX10_image_17 : decode cX10_image 17 = .ok (.aload_n 0, 1) := by decide +kernel
theorem dX10_image_18 : decode cX10_image 18 = .ok (.getfield 10, 3) := by decide +kernel
theorem dX10_image_21 : decode cX10_image 21 = .ok (.invokevirtual 115, 3) := by decide +kernel
theorem dX10_image_24 : decode cX10_image 24 = .ok (.aload_n 0, 1) := by decide +kernel
theorem dX10_image_25 : decode cX10_image 25 = .ok (.getfield 44, 3) := by decide +kernel
theorem dX10_image_28 : decode cX10_image 28 = .ok (.iload_n 1, 1) := by decide +kernel
theorem dX10_image_29 : decode cX10_image 29 = .ok (.aaload, 1) := by decide +kernel
theorem dX10_image_30 : decode cX10_image 30 = .ok (.aload_n 0, 1) := by decide +kernel
theorem dX10_image_31 : decode cX10_image 31 = .ok (.getfield 22, 3) := by decide +kernel
theorem dX10_image_34 : decode cX10_image 34 = .ok (.invokevirtual 386, 3) := by decide +kernel
theorem dX10_image_37 : decode cX10_image 37 = .ok (.aload_n 0, 1) := by decide +kernel
theorem dX10_image_38 : decode cX10_image 38 = .ok (.getfield 48, 3) := by decide +kernel
theorem dX10_image_41 : decode cX10_image 41 = .ok (.iload_n 1, 1) := by decide +kernel
theorem dX10_image_42 : decode cX10_image 42 = .ok (.iconst 1, 1) := by decide +kernel
theorem dX10_image_43 : decode cX10_image 43 = .ok (.bastore, 1) := by decide +kernel
theorem dX10_image_44 : decode cX10_image 44 = .ok (.iconst 1, 1) := by decide +kernel
theorem dX10_image_45 : decode cX10_image 45 = .ok (.ireturn, 1) := by decide +kernel
set_option maxRecDepth 20000 in
theorem ggX10_again_X10_isWithin : GoodIn wsX10_again wsX10_isWithin := goodIn_r _ [10] (by decide +kernel) (by decide +kernel)
set_option maxRecDepth 20000 in
theorem gX10_again_X10_isWithin : GoodIn wsX10_again (va_wsS RX10 142 yX10_isWithin wsX10_isWithin) := goodIn_app (goodIn_of _ (by decide +kernel)) ggX10_again_X10_isWithin
set_option maxRecDepth 20000 in
theorem ggX10_again_X5_copyFrom : GoodIn wsX10_again wsX5_copyFrom := goodIn_r _ [15, 16, 17, 18, 19, 20, 21, 22, 23, 24, 25, 26, 27, 28, 29, 30, 31, 32, 63, 64, 65, 66, 67, 68, 69, 70, 71, 72, 73, 74, 75] (by decide +kernel) (by decide +kernel)
set_option maxRecDepth 20000 in
theorem gX10_again_X5_copyFrom : GoodIn wsX10_again (wsV RX10 115 RX5 yX5_copyFrom wsX5_copyFrom) := goodIn_app (goodIn_of _ (by decide +kernel)) ggX10_again_X5_copyFrom
set_option maxRecDepth 20000 in
theorem ggX10_again_X8_copyFrom : GoodIn wsX10_again wsX8_copyFrom := goodIn_r _ [37, 38, 39, 18, 19, 20, 40, 41, 42, 76, 77, 78, 79] (by decide +kernel) (by decide +kernel)
set_option maxRecDepth 20000 in
theorem gX10_again_X8_copyFrom : GoodIn wsX10_again (wsV RX10 386 RX8 yX8_copyFrom wsX8_copyFrom) := goodIn_app (goodIn_of _ (by decide +kernel)) ggX10_again_X8_copyFrom
set_option maxRecDepth 20000 in
theorem ggX10_again_X4_forget : GoodIn wsX10_again wsX4_forget := goodIn_r _ [47, 48, 80, 81, 82] (by decide +kernel) (by decide +kernel)
set_option maxRecDepth 20000 in
theorem gX10_again_X4_forget : GoodIn wsX10_again (wsV RX10 119 RX4 yX4_forget wsX4_forget) := goodIn_app (goodIn_of _ (by decide +kernel)) ggX10_again_X4_forget
theorem dX10_again_0 : decode cX10_again 0 = .ok (.iload_n 1, 1) := by decide +kernel
theorem dX10_again_1 : decode cX10_again 1 = .ok (.iconst 0, 1) := by decide +kernel
theorem dX10_again_2 : decode cX10_again 2 = .ok (.iconst 2, 1) := by decide +kernel
theorem dX10_again_3 : decode cX10_again 3 = .ok (.invokestatic 142, 3) := by decide +kernel
theorem dX10_again_6 : decode cX10_again 6 = .ok (.ifCond .eq 12, 3) := by decide +kernel
theorem dX10_again_9 : decode cX10_again 9 = .ok (.aload_n 0, 1) := by decide +kernel
theorem dX10_again_10 : decode cX10_again 10 = .ok (.getfield 48, 3) := by decide +kernel
theorem dX10_again_13 : decode cX10_again 13 = .ok (.iload_n 1, 1) := by decide +kernel
theorem dX10_again_14 : decode cX10_again 14 = .ok (.baload, 1) := by decide +kernel
theorem dX10_again_15 : decode cX10_again 15 = .ok (.ifCond .ne 5, 3) := by decide +kernel
theorem dX10_again_18 : decode cX10_again 18 = .ok (.iconst 0, 1) := by decide +kernel
theorem dX10_again_19 : decode cX10_again 19 = .ok (.ireturn, 1) := by decide +kernel
theorem dX10_again_20 : decode cX10_again 20 = .ok (.aload_n 0, 1) := by decide +kernel
theorem dX10_again_21 : decode cX10_again 21 = .ok (.getfield 10, 3) := by decide +kernel
theorem dX10_again_24 : decode cX10_again 24 = .ok (.aload_n 0, 1) := by decide +kernel
theorem dX10_again_25 : decode cX10_again 25 = .ok (.getfield 40, 3) := by decide +kernel
theorem dX10_again_28 : decode cX10_again 28 = .ok (.iload_n 1, 1) := by decide +kernel
theorem dX10_again_29 : decode cX10_again 29 = .ok (.aaload, 1) := by decide +kernel
theorem dX10_again_30 : decode cX10_again 30 = .ok (.invokevirtual 115, 3) := by decide +kernel
theorem dX10_again_33 : decode cX10_again 33 = .ok (.aload_n 0, 1) := by decide +kernel
theorem dX10_again_34 : decode cX10_again 34 = .ok (.getfield 22, 3) := by decide +kernel
theorem dX10_again_37 : decode cX10_again 37 = .ok (.aload_n 0, 1) := by decide +kernel
theorem dX10_again_38 : decode cX10_again 38 = .ok (.getfield 44, 3) := by decide +kernel
theorem dX10_again_41 : decode cX10_again 41 = .ok (.iload_n 1, 1) := by decide +kernel
theorem dX10_again_42 : decode cX10_again 42 = .ok (.aaload, 1) := by decide +kernel
theorem dX10_again_43 : decode cX10_again 43 = .ok (.invokevirtual 386, 3) := by decide +kernel
theorem dX10_again_46 : decode cX10_again 46 = .ok (.aload_n 0, 1) := by decide +kernel
theorem dX10_again_47 : decode cX10_again 47 = .ok (.getfield 36, 3) := by decide +kernel
theorem dX10_again_50 : decode cX10_again 50 = .ok (.invokevirtual 119, 3) := by decide +kernel
theorem dX10_again_53 : decode cX10_again 53 = .ok (.iconst 1, 1) := by decide +kernel
theorem dX10_again_54 : decode cX10_again 54 = .ok (.ireturn, 1) := by decide +kernel
theorem dX10_isWithin_0 : decode cX10_isWithin 0 = .ok (.iload_n 0, 1) := by decide +kernel
theorem dX10_isWithin_1 : decode cX10_isWithin 1 = .ok (.iload_n 1, 1) := by decide +kernel
theorem dX10_isWithin_2 : decode cX10_isWithin 2 = .ok (.if_icmp .lt 12, 3) := by decide +kernel
theorem dX10_isWithin_5 : decode cX10_isWithin 5 = .ok (.iload_n 0, 1) := by decide +kernel
theorem dX10_isWithin_6 : decode cX10_isWithin 6 = .ok (.iload_n 2, 1) := by decide +kernel
theorem dX10_isWithin_7 : decode cX10_isWithin 7 = .ok (.if_icmp .gt 7, 3) := by decide +kernel
theorem dX10_isWithin_10 : decode cX10_isWithin 10 = .ok (.iconst 1, 1) := by decide +kernel
theorem dX10_isWithin_11 : decode cX10_isWithin 11 = .ok (.goto 4, 3) := by decide +kernel
theorem dX10_isWithin_14 : decode cX10_isWithin 14 = .ok (.iconst 0, 1) := by decide +kernel
theorem dX10_isWithin_15 : decode cX10_isWithin 15 = .ok (.ireturn, 1) := by decide +kernel
set_option maxRecDepth 20000 in
theorem ggX10_isSpeed_X10_isWithin : GoodIn wsX10_isSpeed wsX10_isWithin := goodIn_r _ [4] (by decide +kernel) (by decide +kernel)
set_option maxRecDepth 20000 in
theorem gX10_isSpeed_X10_isWithin : GoodIn wsX10_isSpeed (va_wsS RX10 142 yX10_isWithin wsX10_isWithin) := goodIn_app (goodIn_of _ (by decide +kernel)) ggX10_isSpeed_X10_isWithin
theorem dX10_isSpeed_0 : decode cX10_isSpeed 0 = .ok (.iload_n 0, 1) := by decide +kernel
theorem dX10_isSpeed_1 : decode cX10_isSpeed 1 = .ok (.sipush (-500), 3) := by decide +kernel
theorem dX10_isSpeed_4 : decode cX10_isSpeed 4 = .ok (.sipush 500, 3) := by decide +kernel
theorem dX10_isSpeed_7 : decode cX10_isSpeed 7 = .ok (.invokestatic 142, 3) := by decide +kernel
theorem dX10_isSpeed_10 : decode cX10_isSpeed 10 = .ok (.ireturn, 1) := by decide +kernel
set_option maxRecDepth 20000 in
theorem ggX10_isGap_X10_isWithin : GoodIn wsX10_isGap wsX10_isWithin := goodIn_r _ [4] (by decide +kernel) (by decide +kernel)
set_option maxRecDepth 20000 in
theorem gX10_isGap_X10_isWithin : GoodIn wsX10_isGap (va_wsS RX10 142 yX10_isWithin wsX10_isWithin) := goodIn_app (goodIn_of _ (by decide +kernel)) ggX10_isGap_X10_isWithin
theorem dX10_isGap_0 : decode cX10_isGap 0 = .ok (.iload_n 0, 1) := by decide +kernel
theorem dX10_isGap_1 : decode cX10_isGap 1 = .ok (.iconst 4, 1) := by decide +kernel
theorem dX10_isGap_2 : decode cX10_isGap 2 = .ok (.bipush 60, 2) := by decide +kernel
theorem dX10_isGap_4 : decode cX10_isGap 4 = .ok (.invokestatic 142, 3) := by decide +kernel
theorem dX10_isGap_7 : decode cX10_isGap 7 = .ok (.ireturn, 1) := by decide +kernel
theorem dX10_byteOf_0 : decode cX10_byteOf 0 = .ok (.lload_n 0, 1) := by decide +kernel
theorem dX10_byteOf_1 : decode cX10_byteOf 1 = .ok (.bipush 56, 2) := by decide +kernel
theorem dX10_byteOf_3 : decode cX10_byteOf 3 = .ok (.bipush 8, 2) := by decide +kernel
theorem dX10_byteOf_5 : decode cX10_byteOf 5 = .ok (.iload_n 2, 1) := by decide +kernel
theorem dX10_byteOf_6 : decode cX10_byteOf 6 = .ok (.imul, 1) := by decide +kernel
theorem dX10_byteOf_7 : decode cX10_byteOf 7 = .ok (.isub, 1) := by decide +kernel
theorem dX10_byteOf_8 : decode cX10_byteOf 8 = .ok (.lushr, 1) := by decide +kernel
theorem dX10_byteOf_9 : decode cX10_byteOf 9 = .ok (.l2i, 1) := by decide +kernel
theorem dX10_byteOf_10 : decode cX10_byteOf 10 = .ok (.sipush 255, 3) := by decide +kernel
theorem dX10_byteOf_13 : decode cX10_byteOf 13 = .ok (.iand, 1) := by decide +kernel
theorem dX10_byteOf_14 : decode cX10_byteOf 14 = .ok (.ireturn, 1) := by decide +kernel
theorem dX10_rest_0 : decode cX10_rest 0 = .ok (.iload_n 1, 1) := by decide +kernel
theorem dX10_rest_1 : decode cX10_rest 1 = .ok (.ifCond .gt 5, 3) := by decide +kernel
theorem dX10_rest_4 : decode cX10_rest 4 = .ok (.iconst 0, 1) := by decide +kernel
theorem dX10_rest_5 : decode cX10_rest 5 = .ok (.ireturn, 1) := by decide +kernel
theorem dX10_rest_6 : decode cX10_rest 6 = .ok (.iload_n 0, 1) := by decide +kernel
theorem dX10_rest_7 : decode cX10_rest 7 = .ok (.iload_n 1, 1) := by decide +kernel
theorem dX10_rest_8 : decode cX10_rest 8 = .ok (.irem, 1) := by decide +kernel
theorem dX10_rest_9 : decode cX10_rest 9 = .ok (.istore_n 2, 1) := by decide +kernel
theorem dX10_rest_10 : decode cX10_rest 10 = .ok (.iload_n 2, 1) := by decide +kernel
theorem dX10_rest_11 : decode cX10_rest 11 = .ok (.ifCond .ge 9, 3) := by decide +kernel
theorem dX10_rest_14 : decode cX10_rest 14 = .ok (.iload_n 2, 1) := by decide +kernel
theorem dX10_rest_15 : decode cX10_rest 15 = .ok (.iload_n 1, 1) := by decide +kernel
theorem dX10_rest_16 : decode cX10_rest 16 = .ok (.iadd, 1) := by decide +kernel
theorem dX10_rest_17 : decode cX10_rest 17 = .ok (.goto 4, 3) := by decide +kernel
theorem dX10_rest_20 : decode cX10_rest 20 = .ok (.iload_n 2, 1) := by decide +kernel
theorem dX10_rest_21 : decode cX10_rest 21 = .ok (.ireturn, 1) := by decide +kernel
theorem dX10_commonDivisor_0 : decode cX10_commonDivisor 0 = .ok (.iload_n 0, 1) := by decide +kernel
theorem dX10_commonDivisor_1 : decode cX10_commonDivisor 1 = .ok (.istore_n 2, 1) := by decide +kernel
theorem dX10_commonDivisor_2 : decode cX10_commonDivisor 2 = .ok (.iload_n 1, 1) := by decide +kernel
theorem dX10_commonDivisor_3 : decode cX10_commonDivisor 3 = .ok (.istore_n 3, 1) := by decide +kernel
theorem dX10_commonDivisor_4 : decode cX10_commonDivisor 4 = .ok (.iconst 0, 1) := by decide +kernel
theorem dX10_commonDivisor_5 : decode cX10_commonDivisor 5 = .ok (.istore 4, 2) := by decide +kernel
theorem dX10_commonDivisor_7 : decode cX10_commonDivisor 7 = .ok (.iload 4, 2) := by decide +kernel
theorem dX10_commonDivisor_9 : decode cX10_commonDivisor 9 = .ok (.bipush 64, 2) := by decide +kernel
theorem dX10_commonDivisor_11 : decode cX10_commonDivisor 11 = .ok (.if_icmp .ge 23, 3) := by decide +kernel
theorem dX10_commonDivisor_14 : decode cX10_commonDivisor 14 = .ok (.iload_n 3, 1) := by decide +kernel
theorem dX10_commonDivisor_15 : decode cX10_commonDivisor 15 = .ok (.ifCond .le 19, 3) := by decide +kernel
theorem dX10_commonDivisor_18 : decode cX10_commonDivisor 18 = .ok (.iload_n 2, 1) := by decide +kernel
theorem dX10_commonDivisor_19 : decode cX10_commonDivisor 19 = .ok (.iload_n 3, 1) := by decide +kernel
theorem dX10_commonDivisor_20 : decode cX10_commonDivisor 20 = .ok (.irem, 1) := by decide +kernel
theorem dX10_commonDivisor_21 : decode cX10_commonDivisor 21 = .ok (.istore 5, 2) := by decide +kernel
theorem dX10_commonDivisor_23 : decode cX10_commonDivisor 23 = .ok (.iload_n 3, 1) := by decide +kernel
theorem dX10_commonDivisor_24 : decode cX10_commonDivisor 24 = .ok (.istore_n 2, 1) := by decide +kernel
theorem dX10_commonDivisor_25 : decode cX10_commonDivisor 25 = .ok (.iload 5, 2) := by decide +kernel
theorem dX10_commonDivisor_27 : decode cX10_commonDivisor 27 = .ok (.istore_n 3, 1) := by decide +kernel
theorem dX10_commonDivisor_28 : decode cX10_commonDivisor 28 = .ok (.iinc 4 1, 3) := by decide +kernel
theorem dX10_commonDivisor_31 : decode cX10_commonDivisor 31 = .ok (.goto (-24), 3) := by decide +kernel
theorem dX10_commonDivisor_34 : decode cX10_commonDivisor 34 = .ok (.iload_n 2, 1) := by decide +kernel
theorem dX10_commonDivisor_35 : decode cX10_commonDivisor 35 = .ok (.ireturn, 1) := by decide +kernel
set_option maxRecDepth 20000 in
theorem ggX10_leastCommon_X10_commonDivisor : GoodIn wsX10_leastCommon wsX10_commonDivisor := goodIn_r _ [4] (by decide +kernel) (by decide +kernel)
set_option maxRecDepth 20000 in
theorem gX10_leastCommon_X10_commonDivisor : GoodIn wsX10_leastCommon (va_wsS RX10 389 yX10_commonDivisor wsX10_commonDivisor) := goodIn_app (goodIn_of _ (by decide +kernel)) ggX10_leastCommon_X10_commonDivisor
theorem dX10_leastCommon_0 : decode cX10_leastCommon 0 = .ok (.iload_n 0, 1) := by decide +kernel
theorem dX10_leastCommon_1 : decode cX10_leastCommon 1 = .ok (.iload_n 1, 1) := by decide +kernel
theorem dX10_leastCommon_2 : decode cX10_leastCommon 2 = .ok (.invokestatic 389, 3) := by decide +kernel
theorem dX10_leastCommon_5 : decode cX10_leastCommon 5 = .ok (.istore_n 2, 1) := by decide +kernel
theorem dX10_leastCommon_6 : decode cX10_leastCommon 6 = .ok (.iload_n 2, 1) := by decide +kernel
theorem dX10_leastCommon_7 : decode cX10_leastCommon 7 = .ok (.ifCond .le 11, 3) := by decide +kernel
theorem dX10_leastCommon_10 : decode cX10_leastCommon 10 = .ok (.iload_n 0, 1) := by decide +kernel
theorem dX10_leastCommon_11 : decode cX10_leastCommon 11 = .ok (.iload_n 2, 1) := by decide +kernel
theorem dX10_leastCommon_12 : decode cX10_leastCommon 12 = .ok (.idiv, 1) := by decide +kernel
theorem dX10_leastCommon_13 : decode cX10_leastCommon 13 = .ok (.iload_n 1, 1) := by decide +kernel
theorem dX10_leastCommon_14 : decode cX10_leastCommon 14 = .ok (.imul, 1) := by decide +kernel
theorem dX10_leastCommon_15 : decode cX10_leastCommon 15 = .ok (.goto 4, 3) := by decide +kernel
theorem dX10_leastCommon_18 : decode cX10_leastCommon 18 = .ok (.iconst 0, 1) := by decide +kernel
theorem dX10_leastCommon_19 : decode cX10_leastCommon 19 = .ok (.ireturn, 1) := by decide +kernel
theorem dX10_nextAtPlace_0 : decode cX10_nextAtPlace 0 = .ok (.iload_n 0, 1) := by decide +kernel
theorem dX10_nextAtPlace_1 : decode cX10_nextAtPlace 1 = .ok (.i2l, 1) := by decide +kernel
theorem dX10_nextAtPlace_2 : decode cX10_nextAtPlace 2 = .ok (.lstore 4, 2) := by decide +kernel
theorem dX10_nextAtPlace_4 : decode cX10_nextAtPlace 4 = .ok (.iconst 0, 1) := by decide +kernel
theorem dX10_nextAtPlace_5 : decode cX10_nextAtPlace 5 = .ok (.istore 6, 2) := by decide +kernel
theorem dX10_nextAtPlace_7 : decode cX10_nextAtPlace 7 = .ok (.iload 6, 2) := by decide +kernel
theorem dX10_nextAtPlace_9 : decode cX10_nextAtPlace 9 = .ok (.iload_n 2, 1) := by decide +kernel
theorem dX10_nextAtPlace_10 : decode cX10_nextAtPlace 10 = .ok (.if_icmp .ge 31, 3) := by decide +kernel
theorem dX10_nextAtPlace_13 : decode cX10_nextAtPlace 13 = .ok (.lload 4, 2) := by decide +kernel
theorem dX10_nextAtPlace_15 : decode cX10_nextAtPlace 15 = .ok (.iload_n 2, 1) := by decide +kernel
theorem dX10_nextAtPlace_16 : decode cX10_nextAtPlace 16 = .ok (.i2l, 1) := by decide +kernel
theorem dX10_nextAtPlace_17 : decode cX10_nextAtPlace 17 = .ok (.lrem, 1) := by decide +kernel
theorem dX10_nextAtPlace_18 : decode cX10_nextAtPlace 18 = .ok (.iload_n 3, 1) := by decide +kernel
theorem dX10_nextAtPlace_19 : decode cX10_nextAtPlace 19 = .ok (.i2l, 1) := by decide +kernel
theorem dX10_nextAtPlace_20 : decode cX10_nextAtPlace 20 = .ok (.lcmp, 1) := by decide +kernel
theorem dX10_nextAtPlace_21 : decode cX10_nextAtPlace 21 = .ok (.ifCond .ne 7, 3) := by decide +kernel
theorem dX10_nextAtPlace_24 : decode cX10_nextAtPlace 24 = .ok (.lload 4, 2) := by decide +kernel
theorem dX10_nextAtPlace_26 : decode cX10_nextAtPlace 26 = .ok (.l2i, 1) := by decide +kernel
theorem dX10_nextAtPlace_27 : decode cX10_nextAtPlace 27 = .ok (.ireturn, 1) := by decide +kernel
theorem dX10_nextAtPlace_28 : decode cX10_nextAtPlace 28 = .ok (.lload 4, 2) := by decide +kernel
theorem dX10_nextAtPlace_30 : decode cX10_nextAtPlace 30 = .ok (.iload_n 1, 1) := by decide +kernel
theorem dX10_nextAtPlace_31 : decode cX10_nextAtPlace 31 = .ok (.i2l, 1) := by decide +kernel
theorem dX10_nextAtPlace_32 : decode cX10_nextAtPlace 32 = .ok (.ladd, 1) := by decide +kernel
theorem dX10_nextAtPlace_33 : decode cX10_nextAtPlace 33 = .ok (.lstore 4, 2) := by decide +kernel
theorem dX10_nextAtPlace_35 : decode cX10_nextAtPlace 35 = .ok (.iinc 6 1, 3) := by decide +kernel
theorem dX10_nextAtPlace_38 : decode cX10_nextAtPlace 38 = .ok (.goto (-31), 3) := by decide +kernel
theorem dX10_nextAtPlace_41 : decode cX10_nextAtPlace 41 = .ok (.iconst (-1), 1) := by decide +kernel
theorem dX10_nextAtPlace_42 : decode cX10_nextAtPlace 42 = .ok (.ireturn, 1) := by decide +kernel
set_option maxRecDepth 20000 in
theorem ggX11_init_X11_atFirst : GoodIn wsX11_init wsX11_atFirst := goodIn_r _ [27, 11, 28, 29, 30, 36, 37, 38, 39, 40, 41, 42, 43, 44, 45, 46, 47, 48, 49, 50, 51, 52, 53, 54, 55, 56, 57, 58, 59, 60, 61, 62, 63, 64, 65] (by decide +kernel) (by decide +kernel)
set_option maxRecDepth 20000 in
theorem gX11_init_X11_atFirst : GoodIn wsX11_init (wsV RX11 60 RX11 yX11_atFirst wsX11_atFirst) := goodIn_app (goodIn_of _ (by decide +kernel)) ggX11_init_X11_atFirst
set_option maxRecDepth 20000 in
theorem ggX11_init_X11_taken : GoodIn wsX11_init wsX11_taken := goodIn_r _ [34, 5, 11, 35, 36, 37, 38, 39, 40, 41, 42, 43, 44, 45, 46, 47, 48, 49, 50, 51, 52, 53, 54, 55, 56, 57, 58, 59, 60, 61, 62, 63, 64, 65] (by decide +kernel) (by decide +kernel)
set_option maxRecDepth 20000 in
theorem gX11_init_X11_taken : GoodIn wsX11_init (wsV RX11 63 RX11 yX11_taken wsX11_taken) := goodIn_app (goodIn_of _ (by decide +kernel)) ggX11_init_X11_taken
theorem dX11_init_0 : decode cX11_init 0 = .ok (.aload_n 0, 1) := by decide +kernel
theorem dX11_init_1 : decode cX11_init 1 = .ok (.invokespecial 1, 3) := by decide +kernel
theorem dX11_init_4 : decode cX11_init 4 = .ok (.aload_n 0, 1) := by decide +kernel
theorem dX11_init_5 : decode cX11_init 5 = .ok (.sipush 500, 3) := by decide +kernel
theorem dX11_init_8 : decode cX11_init 8 = .ok (.newarray .int, 2) := by decide +kernel
theorem dX11_init_10 : decode cX11_init 10 = .ok (.putfield 7, 3) := by decide +kernel
theorem dX11_init_13 : decode cX11_init 13 = .ok (.aload_n 0, 1) := by decide +kernel
theorem dX11_init_14 : decode cX11_init 14 = .ok (.sipush 1600, 3) := by decide +kernel
theorem dX11_init_17 : decode cX11_init 17 = .ok (.newarray .byte, 2) := by decide +kernel
theorem dX11_init_19 : decode cX11_init 19 = .ok (.putfield 13, 3) := by decide +kernel
theorem dX11_init_22 : decode cX11_init 22 = .ok (.aload_n 0, 1) := by decide +kernel
theorem dX11_init_23 : decode cX11_init 23 = .ok (.iconst 3, 1) := by decide +kernel
theorem dX11_init_24 : decode cX11_init 24 = .ok (.newarray .boolean, 2) := by decide +kernel
theorem dX11_init_26 : decode cX11_init 26 = .ok (.putfield 17, 3) := by decide +kernel
theorem dX11_init_29 : decode cX11_init 29 = .ok (.aload_n 0, 1) := by decide +kernel
theorem dX11_init_30 : decode cX11_init 30 = .ok (.sipush 776, 3) := by decide +kernel
theorem dX11_init_33 : decode cX11_init 33 = .ok (.newarray .int, 2) := by decide +kernel
theorem dX11_init_35 : decode cX11_init 35 = .ok (.putfield 21, 3) := by decide +kernel
theorem dX11_init_38 : decode cX11_init 38 = .ok (.aload_n 0, 1) := by decide +kernel
theorem dX11_init_39 : decode cX11_init 39 = .ok (.bipush 97, 2) := by decide +kernel
theorem dX11_init_41 : decode cX11_init 41 = .ok (.newarray .int, 2) := by decide +kernel
theorem dX11_init_43 : decode cX11_init 43 = .ok (.putfield 24, 3) := by decide +kernel
theorem dX11_init_46 : decode cX11_init 46 = .ok (.aload_n 0, 1) := by decide +kernel
theorem dX11_init_47 : decode cX11_init 47 = .ok (.sipush 300, 3) := by decide +kernel
theorem dX11_init_50 : decode cX11_init 50 = .ok (.newarray .int, 2) := by decide +kernel
theorem dX11_init_52 : decode cX11_init 52 = .ok (.putfield 27, 3) := by decide +kernel
theorem dX11_init_55 : decode cX11_init 55 = .ok (.aload_n 0, 1) := by decide +kernel
theorem dX11_init_56 : decode cX11_init 56 = .ok (.sipush 300, 3) := by decide +kernel
theorem dX11_init_59 : decode cX11_init 59 = .ok (.newarray .int, 2) := by decide +kernel
theorem dX11_init_61 : decode cX11_init 61 = .ok (.putfield 30, 3) := by decide +kernel
theorem dX11_init_64 : decode cX11_init 64 = .ok (.aload_n 0, 1) := by decide +kernel
theorem dX11_init_65 : decode cX11_init 65 = .ok (.sipush 300, 3) := by decide +kernel
theorem dX11_init_68 : decode cX11_init 68 = .ok (.newarray .int, 2) := by decide +kernel
theorem dX11_init_70 : decode cX11_init 70 = .ok (.putfield 33, 3) := by decide +kernel
theorem dX11_init_73 : decode cX11_init 73 = .ok (.aload_n 0, 1) := by decide +kernel
theorem dX11_init_74 : decode cX11_init 74 = .ok (.sipush 300, 3) := by decide +kernel
theorem dX11_init_77 : decode cX11_init 77 = .ok (.newarray .boolean, 2) := by decide +kernel
theorem dX11_init_79 : decode cX11_init 79 = .ok (.putfield 36, 3) := by decide +kernel
theorem dX11_init_82 : decode cX11_init 82 = .ok (.aload_n 0, 1) := by decide +kernel
theorem dX11_init_83 : decode cX11_init 83 = .ok (.iconst 5, 1) := by decide +kernel
theorem dX11_init_84 : decode cX11_init 84 = .ok (.newarray .int, 2) := by decide +kernel
theorem dX11_init_86 : decode cX11_init 86 = .ok (.putfield 39, 3) := by decide +kernel
theorem dX11_init_89 : decode cX11_init 89 = .ok (.aload_n 0, 1) := by decide +kernel
theorem dX11_init_90 : decode cX11_init 90 = .ok (.iconst 4, 1) := by decide +kernel
theorem dX11_init_91 : decode cX11_init 91 = .ok (.newarray .int, 2) := by decide +kernel
theorem dX11_init_93 : decode cX11_init 93 = .ok (.putfield 42, 3) := by decide +kernel
theorem dX11_init_96 : decode cX11_init 96 = .ok (.aload_n 0, 1) := by decide +kernel
theorem dX11_init_97 : decode cX11_init 97 = .ok (.bipush 65, 2) := by decide +kernel
theorem dX11_init_99 : decode cX11_init 99 = .ok (.newarray .int, 2) := by decide +kernel
theorem dX11_init_101 : decode cX11_init 101 = .ok (.putfield 45, 3) := by decide +kernel
theorem dX11_init_104 : decode cX11_init 104 = .ok (.aload_n 0, 1) := by decide +kernel
theorem dX11_init_105 : decode cX11_init 105 = .ok (.iconst 5, 1) := by decide +kernel
theorem dX11_init_106 : decode cX11_init 106 = .ok (.newarray .int, 2) := by decide +kernel
theorem dX11_init_108 : decode cX11_init 108 = .ok (.putfield 48, 3) := by decide +kernel
theorem dX11_init_111 : decode cX11_init 111 = .ok (.aload_n 0, 1) := by decide +kernel
theorem dX11_init_112 : decode cX11_init 112 = .ok (.iconst 5, 1) := by decide +kernel
theorem dX11_init_113 : decode cX11_init 113 = .ok (.newarray .int, 2) := by decide +kernel
theorem dX11_init_115 : decode cX11_init 115 = .ok (.putfield 51, 3) := by decide +kernel
theorem dX11_init_118 : decode cX11_init 118 = .ok (.aload_n 0, 1) := by decide +kernel
theorem dX11_init_119 : decode cX11_init 119 = .ok (.iconst 4, 1) := by decide +kernel
theorem dX11_init_120 : decode cX11_init 120 = .ok (.newarray .int, 2) := by decide +kernel
theorem dX11_init_122 : decode cX11_init 122 = .ok (.putfield 54, 3) := by decide +kernel
theorem dX11_init_125 : decode cX11_init 125 = .ok (.aload_n 0, 1) := by decide +kernel
theorem dX11_init_126 : decode cX11_init 126 = .ok (.iconst 4, 1) := by decide +kernel
theorem dX11_init_127 : decode cX11_init 127 = .ok (.newarray .int, 2) := by decide +kernel
theorem dX11_init_129 : decode cX11_init 129 = .ok (.putfield 57, 3) := by decide +kernel
theorem dX11_init_132 : decode cX11_init 132 = .ok (.aload_n 0, 1) := by decide +kernel
theorem dX11_init_133 : decode cX11_init 133 = .ok (.getfield 7, 3) := by decide +kernel
theorem dX11_init_136 : decode cX11_init 136 = .ok (.bipush 99, 2) := by decide +kernel
theorem dX11_init_138 : decode cX11_init 138 = .ok (.iconst (-1), 1) := by decide +kernel
theorem dX11_init_139 : decode cX11_init 139 = .ok (.iastore, 1) := by decide +kernel
theorem dX11_init_140 : decode cX11_init 140 = .ok (.aload_n 0, 1) := by decide +kernel
theorem dX11_init_141 : decode cX11_init 141 = .ok (.invokevirtual 60, 3) := by decide +kernel
theorem dX11_init_144 : decode cX11_init 144 = .ok (.aload_n 0, 1) := by decide +kernel
theorem dX11_init_145 : decode cX11_init 145 = .ok (.invokevirtual 63, 3) := by decide +kernel
theorem dX11_init_148 : decode cX11_init 148 = .ok (.return_, 1) := by decide +kernel
theorem dX11_thrown_0 : decode cX11_thrown 0 = .ok (.aload_n 0, 1) := by decide +kernel
theorem dX11_thrown_1 : decode cX11_thrown 1 = .ok (.getfield 66, 3) := by decide +kernel
theorem dX11_thrown_4 : decode cX11_thrown 4 = .ok (.ireturn, 1) := by decide +kernel
theorem dX11_in_0 : decode cX11_in 0 = .ok (.iload_n 0, 1) := by decide +kernel
theorem dX11_in_1 : decode cX11_in 1 = .ok (.iload_n 1, 1) := by decide +kernel
theorem dX11_in_2 : decode cX11_in 2 = .ok (.if_icmp .lt 12, 3) := by decide +kernel
theorem dX11_in_5 : decode cX11_in 5 = .ok (.iload_n 0, 1) := by decide +kernel
theorem dX11_in_6 : decode cX11_in 6 = .ok (.iload_n 2, 1) := by decide +kernel
theorem dX11_in_7 : decode cX11_in 7 = .ok (.if_icmp .gt 7, 3) := by decide +kernel
theorem dX11_in_10 : decode cX11_in 10 = .ok (.iconst 1, 1) := by decide +kernel
theorem dX11_in_11 : decode cX11_in 11 = .ok (.goto 4, 3) := by decide +kernel
theorem dX11_in_14 : decode cX11_in 14 = .ok (.iconst 0, 1) := by decide +kernel
theorem dX11_in_15 : decode cX11_in 15 = .ok (.ireturn, 1) := by decide +kernel
theorem dX11_lesser_0 : decode cX11_lesser 0 = .ok (.iload_n 0, 1) := by decide +kernel
theorem dX11_lesser_1 : decode cX11_lesser 1 = .ok (.iload_n 1, 1) := by decide +kernel
theorem dX11_lesser_2 : decode cX11_lesser 2 = .ok (.if_icmp .ge 7, 3) := by decide +kernel
theorem dX11_lesser_5 : decode cX11_lesser 5 = .ok (.iload_n 0, 1) := by decide +kernel
theorem dX11_lesser_6 : decode cX11_lesser 6 = .ok (.goto 4, 3) := by decide +kernel
theorem dX11_lesser_9 : decode cX11_lesser 9 = .ok (.iload_n 1, 1) := by decide +kernel
theorem dX11_lesser_10 : decode cX11_lesser 10 = .ok (.ireturn, 1) := by decide +kernel
theorem dX11_greater_0 : decode cX11_greater 0 = .ok (.iload_n 0, 1) := by decide +kernel
theorem dX11_greater_1 : decode cX11_greater 1 = .ok (.iload_n 1, 1) := by decide +kernel
theorem dX11_greater_2 : decode cX11_greater 2 = .ok (.if_icmp .le 7, 3) := by decide +kernel
theorem dX11_greater_5 : decode cX11_greater 5 = .ok (.iload_n 0, 1) := by decide +kernel
theorem dX11_greater_6 : decode cX11_greater 6 = .ok (.goto 4, 3) := by decide +kernel
theorem dX11_greater_9 : decode cX11_greater 9 = .ok (.iload_n 1, 1) := by decide +kernel
theorem dX11_greater_10 : decode cX11_greater 10 = .ok (.ireturn, 1) := by decide +kernel
theorem dX11_ones_0 : decode cX11_ones 0 = .ok (.iconst 0, 1) := by decide +kernel
theorem dX11_ones_1 : decode cX11_ones 1 = .ok (.istore_n 1, 1) := by decide +kernel
theorem dX11_ones_2 : decode cX11_ones 2 = .ok (.iconst 0, 1) := by decide +kernel
theorem dX11_ones_3 : decode cX11_ones 3 = .ok (.istore_n 2, 1) := by decide +kernel
theorem dX11_ones_4 : decode cX11_ones 4 = .ok (.iload_n 2, 1) := by decide +kernel
theorem dX11_ones_5 : decode cX11_ones 5 = .ok (.bipush 8, 2) := by decide +kernel
theorem dX11_ones_7 : decode cX11_ones 7 = .ok (.if_icmp .ge 17, 3) := by decide +kernel
theorem dX11_ones_10 : decode cX11_ones 10 = .ok (.iload_n 1, 1) := by decide +kernel
theorem dX11_ones_11 : decode cX11_ones 11 = .ok (.iload_n 0, 1) := by decide +kernel
theorem dX11_ones_12 : decode cX11_ones 12 = .ok (.iload_n 2, 1) := by decide +kernel
theorem dX11_ones_13 : decode cX11_ones 13 = .ok (.ishr, 1) := by decide +kernel
theorem dX11_ones_14 : decode cX11_ones 14 = .ok (.iconst 1, 1) := by decide +kernel
theorem dX11_ones_15 : decode cX11_ones 15 = .ok (.iand, 1) := by decide +kernel
theorem dX11_ones_16 : decode cX11_ones 16 = .ok (.iadd, 1) := by decide +kernel
theorem dX11_ones_17 : decode cX11_ones 17 = .ok (.istore_n 1, 1) := by decide +kernel
theorem dX11_ones_18 : decode cX11_ones 18 = .ok (.iinc 2 1, 3) := by decide +kernel
theorem dX11_ones_21 : decode cX11_ones 21 = .ok (.goto (-17), 3) := by decide +kernel
theorem dX11_ones_24 : decode cX11_ones 24 = .ok (.iload_n 1, 1) := by decide +kernel
theorem dX11_ones_25 : decode cX11_ones 25 = .ok (.ireturn, 1) := by decide +kernel
theorem dX11_measure_0 : decode cX11_measure 0 = .ok (.lload_n 0, 1) := by decide +kernel
theorem dX11_measure_1 : decode cX11_measure 1 = .ok (.lstore 4, 2) := by decide +kernel
theorem dX11_measure_3 : decode cX11_measure 3 = .ok (.lload_n 2, 1) := by decide +kernel
theorem dX11_measure_4 : decode cX11_measure 4 = .ok (.lstore 6, 2) := by decide +kernel
theorem dX11_measure_6 : decode cX11_measure 6 = .ok (.lload 6, 2) := by decide +kernel
theorem dX11_measure_8 : decode cX11_measure 8 = .ok (.lconst 0, 1) := by decide +kernel
theorem dX11_measure_9 : decode cX11_measure 9 = .ok (.lcmp, 1) := by decide +kernel
theorem dX11_measure_10 : decode cX11_measure 10 = .ok (.ifCond .eq 21, 3) := by decide +kernel
theorem dX11_measure_13 : decode cX11_measure 13 = .ok (.lload 4, 2) := by decide +kernel
theorem dX11_measure_15 : decode cX11_measure 15 = .ok (.lload 6, 2) := by decide +kernel
theorem dX11_measure_17 : decode cX11_measure 17 = .ok (.lrem, 1) := by decide +kernel
theorem dX11_measure_18 : decode cX11_measure 18 = .ok (.lstore 8, 2) := by decide +kernel
theorem dX11_measure_20 : decode cX11_measure 20 = .ok (.lload 6, 2) := by decide +kernel
theorem dX11_measure_22 : decode cX11_measure 22 = .ok (.lstore 4, 2) := by decide +kernel
theorem dX11_measure_24 : decode cX11_measure 24 = .ok (.lload 8, 2) := by decide +kernel
theorem dX11_measure_26 : decode cX11_measure 26 = .ok (.lstore 6, 2) := by decide +kernel
theorem dX11_measure_28 : decode cX11_measure 28 = .ok (.goto (-22), 3) := by decide +kernel
theorem dX11_measure_31 : decode cX11_measure 31 = .ok (.lload 4, 2) := by decide +kernel
theorem dX11_measure_33 : decode cX11_measure 33 = .ok (.lreturn, 1) := by decide +kernel
theorem dX11_gapAt_0 : decode cX11_gapAt 0 = .ok (.aload_n 0, 1) := by decide +kernel
theorem dX11_gapAt_1 : decode cX11_gapAt 1 = .ok (.getfield 7, 3) := by decide +kernel
theorem dX11_gapAt_4 : decode cX11_gapAt 4 = .ok (.iconst 1, 1) := by decide +kernel
theorem dX11_gapAt_5 : decode cX11_gapAt 5 = .ok (.iload_n 1, 1) := by decide +kernel
theorem dX11_gapAt_6 : decode cX11_gapAt 6 = .ok (.iadd, 1) := by decide +kernel
theorem dX11_gapAt_7 : decode cX11_gapAt 7 = .ok (.iaload, 1) := by decide +kernel
theorem dX11_gapAt_8 : decode cX11_gapAt 8 = .ok (.ireturn, 1) := by decide +kernel
set_option maxRecDepth 20000 in
theorem ggX11_isGap_X11_in : GoodIn wsX11_isGap wsX11_in := goodIn_r _ [5] (by decide +kernel) (by decide +kernel)
set_option maxRecDepth 20000 in
theorem gX11_isGap_X11_in : GoodIn wsX11_isGap (va_wsS RX11 70 yX11_in wsX11_in) := goodIn_app (goodIn_of _ (by decide +kernel)) ggX11_isGap_X11_in
theorem dX11_isGap_0 : decode cX11_isGap 0 = .ok (.iload_n 1, 1) := by decide +kernel
theorem dX11_isGap_1 : decode cX11_isGap 1 = .ok (.iconst 0, 1) := by decide +kernel
theorem dX11_isGap_2 : decode cX11_isGap 2 = .ok (.aload_n 0, 1) := by decide +kernel
theorem dX11_isGap_3 : decode cX11_isGap 3 = .ok (.getfield 7, 3) := by decide +kernel
theorem dX11_isGap_6 : decode cX11_isGap 6 = .ok (.iconst 0, 1) := by decide +kernel
theorem dX11_isGap_7 : decode cX11_isGap 7 = .ok (.iaload, 1) := by decide +kernel
theorem dX11_isGap_8 : decode cX11_isGap 8 = .ok (.iconst 1, 1) := by decide +kernel
theorem dX11_isGap_9 : decode cX11_isGap 9 = .ok (.isub, 1) := by decide +kernel
theorem dX11_isGap_10 : decode cX11_isGap 10 = .ok (.invokestatic 70, 3) := by decide +kernel
theorem dX11_isGap_13 : decode cX11_isGap 13 = .ok (.ireturn, 1) := by decide +kernel
set_option maxRecDepth 20000 in
theorem ggX11_isTarget_X11_in : GoodIn wsX11_isTarget wsX11_in := goodIn_r _ [5] (by decide +kernel) (by decide +kernel)
set_option maxRecDepth 20000 in
theorem gX11_isTarget_X11_in : GoodIn wsX11_isTarget (va_wsS RX11 70 yX11_in wsX11_in) := goodIn_app (goodIn_of _ (by decide +kernel)) ggX11_isTarget_X11_in
theorem dX11_isTarget_0 : decode cX11_isTarget 0 = .ok (.iload_n 1, 1) := by decide +kernel
theorem dX11_isTarget_1 : decode cX11_isTarget 1 = .ok (.iconst 0, 1) := by decide +kernel
theorem dX11_isTarget_2 : decode cX11_isTarget 2 = .ok (.aload_n 0, 1) := by decide +kernel
theorem dX11_isTarget_3 : decode cX11_isTarget 3 = .ok (.getfield 7, 3) := by decide +kernel
theorem dX11_isTarget_6 : decode cX11_isTarget 6 = .ok (.bipush 13, 2) := by decide +kernel
theorem dX11_isTarget_8 : decode cX11_isTarget 8 = .ok (.iaload, 1) := by decide +kernel
theorem dX11_isTarget_9 : decode cX11_isTarget 9 = .ok (.iconst 1, 1) := by decide +kernel
theorem dX11_isTarget_10 : decode cX11_isTarget 10 = .ok (.isub, 1) := by decide +kernel
theorem dX11_isTarget_11 : decode cX11_isTarget 11 = .ok (.invokestatic 70, 3) := by decide +kernel
theorem dX11_isTarget_14 : decode cX11_isTarget 14 = .ok (.ireturn, 1) := by decide +kernel
theorem dX11_of_0 : decode cX11_of 0 = .ok (.aload_n 0, 1) := by decide +kernel
theorem dX11_of_1 : decode cX11_of 1 = .ok (.getfield 7, 3) := by decide +kernel
theorem dX11_of_4 : decode cX11_of 4 = .ok (.bipush 14, 2) := by decide +kernel
theorem dX11_of_6 : decode cX11_of 6 = .ok (.iconst 3, 1) := by decide +kernel
theorem dX11_of_7 : decode cX11_of 7 = .ok (.iload_n 1, 1) := by decide +kernel
theorem dX11_of_8 : decode cX11_of 8 = .ok (.imul, 1) := by decide +kernel
theorem dX11_of_9 : decode cX11_of 9 = .ok (.iadd, 1) := by decide +kernel
theorem dX11_of_10 : decode cX11_of 10 = .ok (.iload_n 2, 1) := by decide +kernel
theorem dX11_of_11 : decode cX11_of 11 = .ok (.iadd, 1) := by decide +kernel
theorem dX11_of_12 : decode cX11_of 12 = .ok (.iaload, 1) := by decide +kernel
theorem dX11_of_13 : decode cX11_of 13 = .ok (.ireturn, 1) := by decide +kernel
set_option maxRecDepth 20000 in
theorem ggX11_rangeOf_X11_of : GoodIn wsX11_rangeOf wsX11_of := goodIn_r _ [5, 6, 7, 8, 9, 10, 11, 12, 13, 14, 15, 16, 17, 18, 19, 20, 21, 22, 23, 24, 25, 26, 27, 28, 29, 30, 31, 32, 33, 34, 35, 36] (by decide +kernel) (by decide +kernel)
set_option maxRecDepth 20000 in
theorem gX11_rangeOf_X11_of : GoodIn wsX11_rangeOf (wsV RX11 74 RX11 yX11_of wsX11_of) := goodIn_app (goodIn_of _ (by decide +kernel)) ggX11_rangeOf_X11_of
theorem dX11_rangeOf_0 : decode cX11_rangeOf 0 = .ok (.aload_n 0, 1) := by decide +kernel
theorem dX11_rangeOf_1 : decode cX11_rangeOf 1 = .ok (.iload_n 1, 1) := by decide +kernel
theorem dX11_rangeOf_2 : decode cX11_rangeOf 2 = .ok (.iconst 0, 1) := by decide +kernel
theorem dX11_rangeOf_3 : decode cX11_rangeOf 3 = .ok (.invokevirtual 74, 3) := by decide +kernel
theorem dX11_rangeOf_6 : decode cX11_rangeOf 6 = .ok (.bipush 16, 2) := by decide +kernel
theorem dX11_rangeOf_8 : decode cX11_rangeOf 8 = .ok (.idiv, 1) := by decide +kernel
theorem dX11_rangeOf_9 : decode cX11_rangeOf 9 = .ok (.ireturn, 1) := by decide +kernel
theorem dX11_type_0 : decode cX11_type 0 = .ok (.aload_n 0, 1) := by decide +kernel
theorem dX11_type_1 : decode cX11_type 1 = .ok (.iconst 0, 1) := by decide +kernel
theorem dX11_type_2 : decode cX11_type 2 = .ok (.putfield 66, 3) := by decide +kernel
theorem dX11_type_5 : decode cX11_type 5 = .ok (.iconst 0, 1) := by decide +kernel
theorem dX11_type_6 : decode cX11_type 6 = .ok (.istore_n 3, 1) := by decide +kernel
theorem dX11_type_7 : decode cX11_type 7 = .ok (.iload_n 3, 1) := by decide +kernel
theorem dX11_type_8 : decode cX11_type 8 = .ok (.bipush 8, 2) := by decide +kernel
theorem dX11_type_10 : decode cX11_type 10 = .ok (.if_icmp .ge 27, 3) := by decide +kernel
theorem dX11_type_13 : decode cX11_type 13 = .ok (.lload_n 1, 1) := by decide +kernel
theorem dX11_type_14 : decode cX11_type 14 = .ok (.bipush 56, 2) := by decide +kernel
theorem dX11_type_16 : decode cX11_type 16 = .ok (.bipush 8, 2) := by decide +kernel
theorem dX11_type_18 : decode cX11_type 18 = .ok (.iload_n 3, 1) := by decide +kernel
theorem dX11_type_19 : decode cX11_type 19 = .ok (.imul, 1) := by decide +kernel
theorem dX11_type_20 : decode cX11_type 20 = .ok (.isub, 1) := by decide +kernel
theorem dX11_type_21 : decode cX11_type 21 = .ok (.lshr, 1) := by decide +kernel
theorem dX11_type_22 : decode cX11_type 22 = .ok (.ldc2_w 78, 3) := by decide +kernel
theorem dX11_type_25 : decode cX11_type 25 = .ok (.land, 1) := by decide +kernel
theorem dX11_type_26 : decode cX11_type 26 = .ok (.lconst 0, 1) := by decide +kernel
theorem dX11_type_27 : decode cX11_type 27 = .ok (.lcmp, 1) := by decide +kernel
theorem dX11_type_28 : decode cX11_type 28 = .ok (.ifCond .eq 9, 3) := by decide +kernel
theorem dX11_type_31 : decode cX11_type 31 = .ok (.iinc 3 1, 3) := by decide +kernel
theorem dX11_type_34 : decode cX11_type 34 = .ok (.goto (-27), 3) := by decide +kernel
theorem dX11_type_37 : decode cX11_type 37 = .ok (.aload_n 0, 1) := by decide +kernel
theorem dX11_type_38 : decode cX11_type 38 = .ok (.getfield 7, 3) := by decide +kernel
theorem dX11_type_41 : decode cX11_type 41 = .ok (.bipush 97, 2) := by decide +kernel
theorem dX11_type_43 : decode cX11_type 43 = .ok (.iaload, 1) := by decide +kernel
theorem dX11_type_44 : decode cX11_type 44 = .ok (.iload_n 3, 1) := by decide +kernel
theorem dX11_type_45 : decode cX11_type 45 = .ok (.iadd, 1) := by decide +kernel
theorem dX11_type_46 : decode cX11_type 46 = .ok (.sipush 400, 3) := by decide +kernel
theorem dX11_type_49 : decode cX11_type 49 = .ok (.if_icmp .le 5, 3) := by decide +kernel
theorem dX11_type_52 : decode cX11_type 52 = .ok (.iconst (-1), 1) := by decide +kernel
theorem dX11_type_53 : decode cX11_type 53 = .ok (.ireturn, 1) := by decide +kernel
theorem dX11_type_54 : decode cX11_type 54 = .ok (.iconst 0, 1) := by decide +kernel
theorem dX11_type_55 : decode cX11_type 55 = .ok (.istore 4, 2) := by decide +kernel
theorem dX11_type_57 : decode cX11_type 57 = .ok (.iload 4, 2) := by decide +kernel
theorem dX11_type_59 : decode cX11_type 59 = .ok (.iload_n 3, 1) := by decide +kernel
theorem dX11_type_60 : decode cX11_type 60 = .ok (.if_icmp .ge 44, 3) := by decide +kernel
theorem dX11_type_63 : decode cX11_type 63 = .ok (.aload_n 0, 1) := by decide +kernel
theorem dX11_type_64 : decode cX11_type 64 = .ok (.getfield 13, 3) := by decide +kernel
theorem dX11_type_67 : decode cX11_type 67 = .ok (.aload_n 0, 1) := by decide +kernel
theorem dX11_type_68 : decode cX11_type 68 = .ok (.getfield 7, 3) := by decide +kernel
theorem dX11_type_71 : decode cX11_type 71 = .ok (.bipush 97, 2) := by decide +kernel
theorem dX11_type_73 : decode cX11_type 73 = .ok (.iaload, 1) := by decide +kernel
theorem dX11_type_74 : decode cX11_type 74 = .ok (.lload_n 1, 1) := by decide +kernel
theorem dX11_type_75 : decode cX11_type 75 = .ok (.bipush 56, 2) := by decide +kernel
theorem dX11_type_77 : decode cX11_type 77 = .ok (.bipush 8, 2) := by decide +kernel
theorem dX11_type_79 : decode cX11_type 79 = .ok (.iload 4, 2) := by decide +kernel
theorem dX11_type_81 : decode cX11_type 81 = .ok (.imul, 1) := by decide +kernel
theorem dX11_type_82 : decode cX11_type 82 = .ok (.isub, 1) := by decide +kernel
theorem dX11_type_83 : decode cX11_type 83 = .ok (.lshr, 1) := by decide +kernel
theorem dX11_type_84 : decode cX11_type 84 = .ok (.l2i, 1) := by decide +kernel
theorem dX11_type_85 : decode cX11_type 85 = .ok (.i2b, 1) := by decide +kernel
theorem dX11_type_86 : decode cX11_type 86 = .ok (.bastore, 1) := by decide +kernel
theorem dX11_type_87 : decode cX11_type 87 = .ok (.aload_n 0, 1) := by decide +kernel
theorem dX11_type_88 : decode cX11_type 88 = .ok (.getfield 7, 3) := by decide +kernel
theorem dX11_type_91 : decode cX11_type 91 = .ok (.bipush 97, 2) := by decide +kernel
theorem dX11_type_93 : decode cX11_type 93 = .ok (.dup2, 1) := by decide +kernel
theorem dX11_type_94 : decode cX11_type 94 = .ok (.iaload, 1) := by decide +kernel
theorem dX11_type_95 : decode cX11_type 95 = .ok (.iconst 1, 1) := by decide +kernel
theorem dX11_type_96 : decode cX11_type 96 = .ok (.iadd, 1) := by decide +kernel
theorem dX11_type_97 : decode cX11_type 97 = .ok (.iastore, 1) := by decide +kernel
theorem dX11_type_98 : decode cX11_type 98 = .ok (.iinc 4 1, 3) := by decide +kernel
theorem dX11_type_101 : decode cX11_type 101 = .ok (.goto (-44), 3) := by decide +kernel
theorem dX11_type_104 : decode cX11_type 104 = .ok (.aload_n 0, 1) := by decide +kernel
theorem dX11_type_105 : decode cX11_type 105 = .ok (.getfield 7, 3) := by decide +kernel
theorem dX11_type_108 : decode cX11_type 108 = .ok (.bipush 97, 2) := by decide +kernel
theorem dX11_type_110 : decode cX11_type 110 = .ok (.iaload, 1) := by decide +kernel
theorem dX11_type_111 : decode cX11_type 111 = .ok (.ireturn, 1) := by decide +kernel
theorem dX11_see_0 : decode cX11_see 0 = .ok (.aload_n 0, 1) := by decide +kernel
theorem dX11_see_1 : decode cX11_see 1 = .ok (.getfield 80, 3) := by decide +kernel
theorem dX11_see_4 : decode cX11_see 4 = .ok (.aload_n 0, 1) := by decide +kernel
theorem dX11_see_5 : decode cX11_see 5 = .ok (.getfield 83, 3) := by decide +kernel
theorem dX11_see_8 : decode cX11_see 8 = .ok (.if_icmp .ge 19, 3) := by decide +kernel
theorem dX11_see_11 : decode cX11_see 11 = .ok (.aload_n 0, 1) := by decide +kernel
theorem dX11_see_12 : decode cX11_see 12 = .ok (.getfield 13, 3) := by decide +kernel
theorem dX11_see_15 : decode cX11_see 15 = .ok (.aload_n 0, 1) := by decide +kernel
theorem dX11_see_16 : decode cX11_see 16 = .ok (.getfield 80, 3) := by decide +kernel
theorem dX11_see_19 : decode cX11_see 19 = .ok (.baload, 1) := by decide +kernel
theorem dX11_see_20 : decode cX11_see 20 = .ok (.sipush 255, 3) := by decide +kernel
theorem dX11_see_23 : decode cX11_see 23 = .ok (.iand, 1) := by decide +kernel
theorem dX11_see_24 : decode cX11_see 24 = .ok (.goto 4, 3) := by decide +kernel
theorem dX11_see_27 : decode cX11_see 27 = .ok (.iconst (-1), 1) := by decide +kernel
theorem dX11_see_28 : decode cX11_see 28 = .ok (.ireturn, 1) := by decide +kernel
set_option maxRecDepth 20000 in
theorem ggX11_token_X11_see : GoodIn wsX11_token wsX11_see := goodIn_r _ [10, 1, 11, 12, 16, 17, 18, 19, 20, 21, 22, 23, 24, 25, 26, 27, 28, 29, 30, 31, 32, 33, 34, 35, 36, 37, 38, 39, 40, 41, 42, 43, 44, 45] (by decide +kernel) (by decide +kernel)
set_option maxRecDepth 20000 in
theorem gX11_token_X11_see : GoodIn wsX11_token (wsV RX11 86 RX11 yX11_see wsX11_see) := goodIn_app (goodIn_of _ (by decide +kernel)) ggX11_token_X11_see
set_option maxRecDepth 20000 in
theorem ggX11_token_X11_in : GoodIn wsX11_token wsX11_in := goodIn_r _ [15] (by decide +kernel) (by decide +kernel)
set_option maxRecDepth 20000 in
theorem gX11_token_X11_in : GoodIn wsX11_token (va_wsS RX11 70 yX11_in wsX11_in) := goodIn_app (goodIn_of _ (by decide +kernel)) ggX11_token_X11_in
theorem dX11_token_0 : decode cX11_token 0 = .ok (.aload_n 0, 1) := by decide +kernel
theorem dX11_token_1 : decode cX11_token 1 = .ok (.invokevirtual 86, 3) := by decide +kernel
theorem dX11_token_4 : decode cX11_token 4 = .ok (.bipush 10, 2) := by decide +kernel
theorem dX11_token_6 : decode cX11_token 6 = .ok (.if_icmp .eq 12, 3) := by decide +kernel
theorem dX11_token_9 : decode cX11_token 9 = .ok (.aload_n 0, 1) := by decide +kernel
theorem dX11_token_10 : decode cX11_token 10 = .ok (.invokevirtual 86, 3) := by decide +kernel
theorem dX11_token_13 : decode cX11_token 13 = .ok (.bipush 32, 2) := by decide +kernel
theorem dX11_token_15 : decode cX11_token 15 = .ok (.if_icmp .ne 16, 3) := by decide +kernel
theorem dX11_token_18 : decode cX11_token 18 = .ok (.aload_n 0, 1) := by decide +kernel
theorem dX11_token_19 : decode cX11_token 19 = .ok (.dup, 1) := by decide +kernel
theorem dX11_token_20 : decode cX11_token 20 = .ok (.getfield 80, 3) := by decide +kernel
theorem dX11_token_23 : decode cX11_token 23 = .ok (.iconst 1, 1) := by decide +kernel
theorem dX11_token_24 : decode cX11_token 24 = .ok (.iadd, 1) := by decide +kernel
theorem dX11_token_25 : decode cX11_token 25 = .ok (.putfield 80, 3) := by decide +kernel
theorem dX11_token_28 : decode cX11_token 28 = .ok (.goto (-28), 3) := by decide +kernel
theorem dX11_token_31 : decode cX11_token 31 = .ok (.aload_n 0, 1) := by decide +kernel
theorem dX11_token_32 : decode cX11_token 32 = .ok (.aload_n 0, 1) := by decide +kernel
theorem dX11_token_33 : decode cX11_token 33 = .ok (.getfield 80, 3) := by decide +kernel
theorem dX11_token_36 : decode cX11_token 36 = .ok (.putfield 90, 3) := by decide +kernel
theorem dX11_token_39 : decode cX11_token 39 = .ok (.aload_n 0, 1) := by decide +kernel
theorem dX11_token_40 : decode cX11_token 40 = .ok (.invokevirtual 86, 3) := by decide +kernel
theorem dX11_token_43 : decode cX11_token 43 = .ok (.istore_n 1, 1) := by decide +kernel
theorem dX11_token_44 : decode cX11_token 44 = .ok (.aload_n 0, 1) := by decide +kernel
theorem dX11_token_45 : decode cX11_token 45 = .ok (.lconst 0, 1) := by decide +kernel
theorem dX11_token_46 : decode cX11_token 46 = .ok (.putfield 93, 3) := by decide +kernel
theorem dX11_token_49 : decode cX11_token 49 = .ok (.iconst 0, 1) := by decide +kernel
theorem dX11_token_50 : decode cX11_token 50 = .ok (.istore_n 2, 1) := by decide +kernel
theorem dX11_token_51 : decode cX11_token 51 = .ok (.iload_n 1, 1) := by decide +kernel
theorem dX11_token_52 : decode cX11_token 52 = .ok (.ifCond .ge 11, 3) := by decide +kernel
theorem dX11_token_55 : decode cX11_token 55 = .ok (.aload_n 0, 1) := by decide +kernel
theorem dX11_token_56 : decode cX11_token 56 = .ok (.iconst 0, 1) := by decide +kernel
theorem dX11_token_57 : decode cX11_token 57 = .ok (.putfield 97, 3) := by decide +kernel
theorem dX11_token_60 : decode cX11_token 60 = .ok (.goto 206, 3) := by decide +kernel
theorem dX11_token_63 : decode cX11_token 63 = .ok (.iload_n 1, 1) := by decide +kernel
theorem dX11_token_64 : decode cX11_token 64 = .ok (.bipush 97, 2) := by decide +kernel
theorem dX11_token_66 : decode cX11_token 66 = .ok (.bipush 122, 2) := by decide +kernel
theorem dX11_token_68 : decode cX11_token 68 = .ok (.invokestatic 70, 3) := by decide +kernel
theorem dX11_token_71 : decode cX11_token 71 = .ok (.ifCond .eq 76, 3) := by decide +kernel
theorem dX11_token_74 : decode cX11_token 74 = .ok (.aload_n 0, 1) := by decide +kernel
theorem dX11_token_75 : decode cX11_token 75 = .ok (.invokevirtual 86, 3) := by decide +kernel
theorem dX11_token_78 : decode cX11_token 78 = .ok (.bipush 97, 2) := by decide +kernel
theorem dX11_token_80 : decode cX11_token 80 = .ok (.bipush 122, 2) := by decide +kernel
theorem dX11_token_82 : decode cX11_token 82 = .ok (.invokestatic 70, 3) := by decide +kernel
theorem dX11_token_85 : decode cX11_token 85 = .ok (.ifCond .eq 36, 3) := by decide +kernel
theorem dX11_token_88 : decode cX11_token 88 = .ok (.aload_n 0, 1) := by decide +kernel
theorem dX11_token_89 : decode cX11_token 89 = .ok (.aload_n 0, 1) := by decide +kernel
theorem dX11_token_90 : decode cX11_token 90 = .ok (.getfield 93, 3) := by decide +kernel
theorem dX11_token_93 : decode cX11_token 93 = .ok (.bipush 8, 2) := by decide +kernel
theorem dX11_token_95 : decode cX11_token 95 = .ok (.lshl, 1) := by decide +kernel
theorem dX11_token_96 : decode cX11_token 96 = .ok (.aload_n 0, 1) := by decide +kernel
theorem dX11_token_97 : decode cX11_token 97 = .ok (.invokevirtual 86, 3) := by decide +kernel
theorem dX11_token_100 : decode cX11_token 100 = .ok (.i2l, 1) := by decide +kernel
theorem dX11_token_101 : decode cX11_token 101 = .ok (.lor, 1) := by decide +kernel
theorem dX11_token_102 : decode cX11_token 102 = .ok (.putfield 93, 3) := by decide +kernel
theorem dX11_token_105 : decode cX11_token 105 = .ok (.aload_n 0, 1) := by decide +kernel
theorem dX11_token_106 : decode cX11_token 106 = .ok (.dup, 1) := by decide +kernel
theorem dX11_token_107 : decode cX11_token 107 = .ok (.getfield 80, 3) := by decide +kernel
theorem dX11_token_110 : decode cX11_token 110 = .ok (.iconst 1, 1) := by decide +kernel
theorem dX11_token_111 : decode cX11_token 111 = .ok (.iadd, 1) := by decide +kernel
theorem dX11_token_112 : decode cX11_token 112 = .ok (.putfield 80, 3) := by decide +kernel
theorem dX11_token_115 : decode cX11_token 115 = .ok (.iinc 2 1, 3) := by decide +kernel
theorem dX11_token_118 : decode cX11_token 118 = .ok (.goto (-44), 3) := by decide +kernel
theorem dX11_token_121 : decode cX11_token 121 = .ok (.aload_n 0, 1) := by decide +kernel
theorem dX11_token_122 : decode cX11_token 122 = .ok (.iload_n 2, 1) := by decide +kernel
theorem dX11_token_123 : decode cX11_token 123 = .ok (.bipush 8, 2) := by decide +kernel
theorem dX11_token_125 : decode cX11_token 125 = .ok (.if_icmp .le 7, 3) := by decide +kernel
theorem dX11_token_128 : decode cX11_token 128 = .ok (.lconst 0, 1) := by decide +kernel
theorem dX11_token_129 : decode cX11_token 129 = .ok (.goto 7, 3) := by decide +kernel
theorem dX11_token_132 : decode cX11_token 132 = .ok (.aload_n 0, 1) := by decide +kernel
theorem dX11_token_133 : decode cX11_token 133 = .ok (.getfield 93, 3) := by decide +kernel
theorem dX11_token_136 : decode cX11_token 136 = .ok (.putfield 93, 3) := by decide +kernel
theorem dX11_token_139 : decode cX11_token 139 = .ok (.aload_n 0, 1) := by decide +kernel
theorem dX11_token_140 : decode cX11_token 140 = .ok (.iconst 2, 1) := by decide +kernel
theorem dX11_token_141 : decode cX11_token 141 = .ok (.putfield 97, 3) := by decide +kernel
theorem dX11_token_144 : decode cX11_token 144 = .ok (.goto 122, 3) := by decide +kernel
theorem dX11_token_147 : decode cX11_token 147 = .ok (.iload_n 1, 1) := by decide +kernel
theorem dX11_token_148 : decode cX11_token 148 = .ok (.bipush 48, 2) := by decide +kernel
theorem dX11_token_150 : decode cX11_token 150 = .ok (.bipush 57, 2) := by decide +kernel
theorem dX11_token_152 : decode cX11_token 152 = .ok (.invokestatic 70, 3) := by decide +kernel
theorem dX11_token_155 : decode cX11_token 155 = .ok (.ifCond .eq 86, 3) := by decide +kernel
theorem dX11_token_158 : decode cX11_token 158 = .ok (.aload_n 0, 1) := by decide +kernel
theorem dX11_token_159 : decode cX11_token 159 = .ok (.iconst 0, 1) := by decide +kernel
theorem dX11_token_160 : decode cX11_token 160 = .ok (.putfield 100, 3) := by decide +kernel
theorem dX11_token_163 : decode cX11_token 163 = .ok (.aload_n 0, 1) := by decide +kernel
theorem dX11_token_164 : decode cX11_token 164 = .ok (.invokevirtual 86, 3) := by decide +kernel
theorem dX11_token_167 : decode cX11_token 167 = .ok (.bipush 48, 2) := by decide +kernel
theorem dX11_token_169 : decode cX11_token 169 = .ok (.bipush 57, 2) := by decide +kernel
theorem dX11_token_171 : decode cX11_token 171 = .ok (.invokestatic 70, 3) := by decide +kernel
theorem dX11_token_174 : decode cX11_token 174 = .ok (.ifCond .eq 50, 3) := by decide +kernel
theorem dX11_token_177 : decode cX11_token 177 = .ok (.aload_n 0, 1) := by decide +kernel
theorem dX11_token_178 : decode cX11_token 178 = .ok (.iload_n 2, 1) := by decide +kernel
theorem dX11_token_179 : decode cX11_token 179 = .ok (.iconst 4, 1) := by decide +kernel
theorem dX11_token_180 : decode cX11_token 180 = .ok (.if_icmp .ge 21, 3) := by decide +kernel
theorem dX11_token_183 : decode cX11_token 183 = .ok (.bipush 10, 2) := by decide +kernel
theorem dX11_token_185 : decode cX11_token 185 = .ok (.aload_n 0, 1) := by decide +kernel
theorem dX11_token_186 : decode cX11_token 186 = .ok (.getfield 100, 3) := by decide +kernel
theorem dX11_token_189 : decode cX11_token 189 = .ok (.imul, 1) := by decide +kernel
theorem dX11_token_190 : decode cX11_token 190 = .ok (.aload_n 0, 1) := by decide +kernel
theorem dX11_token_191 : decode cX11_token 191 = .ok (.invokevirtual 86, 3) := by decide +kernel
theorem dX11_token_194 : decode cX11_token 194 = .ok (.iadd, 1) := by decide +kernel
theorem dX11_token_195 : decode cX11_token 195 = .ok (.bipush 48, 2) := by decide +kernel
theorem dX11_token_197 : decode cX11_token 197 = .ok (.isub, 1) := by decide +kernel
theorem dX11_token_198 : decode cX11_token 198 = .ok (.goto 7, 3) := by decide +kernel
theorem dX11_token_201 : decode cX11_token 201 = .ok (.aload_n 0, 1) := by decide +kernel
theorem dX11_token_202 : decode cX11_token 202 = .ok (.getfield 100, 3) := by decide +kernel
theorem dX11_token_205 : decode cX11_token 205 = .ok (.putfield 100, 3) := by decide +kernel
theorem dX11_token_208 : decode cX11_token 208 = .ok (.aload_n 0, 1) := by decide +kernel
theorem dX11_token_209 : decode cX11_token 209 = .ok (.dup, 1) := by decide +kernel
theorem dX11_token_210 : decode cX11_token 210 = .ok (.getfield 80, 3) := by decide +kernel
theorem dX11_token_213 : decode cX11_token 213 = .ok (.iconst 1, 1) := by decide +kernel
theorem dX11_token_214 : decode cX11_token 214 = .ok (.iadd, 1) := by decide +kernel
theorem dX11_token_215 : decode cX11_token 215 = .ok (.putfield 80, 3) := by decide +kernel
theorem dX11_token_218 : decode cX11_token 218 = .ok (.iinc 2 1, 3) := by decide +kernel
theorem dX11_token_221 : decode cX11_token 221 = .ok (.goto (-58), 3) := by decide +kernel
theorem dX11_token_224 : decode cX11_token 224 = .ok (.aload_n 0, 1) := by decide +kernel
theorem dX11_token_225 : decode cX11_token 225 = .ok (.iload_n 2, 1) := by decide +kernel
theorem dX11_token_226 : decode cX11_token 226 = .ok (.iconst 4, 1) := by decide +kernel
theorem dX11_token_227 : decode cX11_token 227 = .ok (.if_icmp .le 7, 3) := by decide +kernel
theorem dX11_token_230 : decode cX11_token 230 = .ok (.iconst 1, 1) := by decide +kernel
theorem dX11_token_231 : decode cX11_token 231 = .ok (.goto 4, 3) := by decide +kernel
theorem dX11_token_234 : decode cX11_token 234 = .ok (.iconst 3, 1) := by decide +kernel
theorem dX11_token_235 : decode cX11_token 235 = .ok (.putfield 97, 3) := by decide +kernel
theorem dX11_token_238 : decode cX11_token 238 = .ok (.goto 28, 3) := by decide +kernel
theorem dX11_token_241 : decode cX11_token 241 = .ok (.aload_n 0, 1) := by decide +kernel
theorem dX11_token_242 : decode cX11_token 242 = .ok (.dup, 1) := by decide +kernel
theorem dX11_token_243 : decode cX11_token 243 = .ok (.getfield 80, 3) := by decide +kernel
theorem dX11_token_246 : decode cX11_token 246 = .ok (.iconst 1, 1) := by decide +kernel
theorem dX11_token_247 : decode cX11_token 247 = .ok (.iadd, 1) := by decide +kernel
theorem dX11_token_248 : decode cX11_token 248 = .ok (.putfield 80, 3) := by decide +kernel
theorem dX11_token_251 : decode cX11_token 251 = .ok (.aload_n 0, 1) := by decide +kernel
theorem dX11_token_252 : decode cX11_token 252 = .ok (.iload_n 1, 1) := by decide +kernel
theorem dX11_token_253 : decode cX11_token 253 = .ok (.bipush 59, 2) := by decide +kernel
theorem dX11_token_255 : decode cX11_token 255 = .ok (.if_icmp .ne 7, 3) := by decide +kernel
theorem dX11_token_258 : decode cX11_token 258 = .ok (.iconst 4, 1) := by decide +kernel
theorem dX11_token_259 : decode cX11_token 259 = .ok (.goto 4, 3) := by decide +kernel
theorem dX11_token_262 : decode cX11_token 262 = .ok (.iconst 1, 1) := by decide +kernel
theorem dX11_token_263 : decode cX11_token 263 = .ok (.putfield 97, 3) := by decide +kernel
theorem dX11_token_266 : decode cX11_token 266 = .ok (.return_, 1) := by decide +kernel
theorem dX11_fails_0 : decode cX11_fails 0 = .ok (.aload_n 0, 1) := by decide +kernel
theorem dX11_fails_1 : decode cX11_fails 1 = .ok (.aload_n 0, 1) := by decide +kernel
theorem dX11_fails_2 : decode cX11_fails 2 = .ok (.getfield 90, 3) := by decide +kernel
theorem dX11_fails_5 : decode cX11_fails 5 = .ok (.putfield 103, 3) := by decide +kernel
theorem dX11_fails_8 : decode cX11_fails 8 = .ok (.iconst 0, 1) := by decide +kernel
theorem dX11_fails_9 : decode cX11_fails 9 = .ok (.ireturn, 1) := by decide +kernel
theorem dX11_isBad_0 : decode cX11_isBad 0 = .ok (.aload_n 0, 1) := by decide +kernel
theorem dX11_isBad_1 : decode cX11_isBad 1 = .ok (.getfield 106, 3) := by decide +kernel
theorem dX11_isBad_4 : decode cX11_isBad 4 = .ok (.ifCond .eq 27, 3) := by decide +kernel
theorem dX11_isBad_7 : decode cX11_isBad 7 = .ok (.iload_n 2, 1) := by decide +kernel
theorem dX11_isBad_8 : decode cX11_isBad 8 = .ok (.aload_n 0, 1) := by decide +kernel
theorem dX11_isBad_9 : decode cX11_isBad 9 = .ok (.getfield 109, 3) := by decide +kernel
theorem dX11_isBad_12 : decode cX11_isBad 12 = .ok (.if_icmp .lt 19, 3) := by decide +kernel
theorem dX11_isBad_15 : decode cX11_isBad 15 = .ok (.iload_n 2, 1) := by decide +kernel
theorem dX11_isBad_16 : decode cX11_isBad 16 = .ok (.aload_n 0, 1) := by decide +kernel
theorem dX11_isBad_17 : decode cX11_isBad 17 = .ok (.getfield 109, 3) := by decide +kernel
theorem dX11_isBad_20 : decode cX11_isBad 20 = .ok (.if_icmp .ne 21, 3) := by decide +kernel
theorem dX11_isBad_23 : decode cX11_isBad 23 = .ok (.iload_n 1, 1) := by decide +kernel
theorem dX11_isBad_24 : decode cX11_isBad 24 = .ok (.aload_n 0, 1) := by decide +kernel
theorem dX11_isBad_25 : decode cX11_isBad 25 = .ok (.getfield 106, 3) := by decide +kernel
theorem dX11_isBad_28 : decode cX11_isBad 28 = .ok (.if_icmp .ge 13, 3) := by decide +kernel
theorem dX11_isBad_31 : decode cX11_isBad 31 = .ok (.aload_n 0, 1) := by decide +kernel
theorem dX11_isBad_32 : decode cX11_isBad 32 = .ok (.iload_n 1, 1) := by decide +kernel
theorem dX11_isBad_33 : decode cX11_isBad 33 = .ok (.putfield 106, 3) := by decide +kernel
theorem dX11_isBad_36 : decode cX11_isBad 36 = .ok (.aload_n 0, 1) := by decide +kernel
theorem dX11_isBad_37 : decode cX11_isBad 37 = .ok (.iload_n 2, 1) := by decide +kernel
theorem dX11_isBad_38 : decode cX11_isBad 38 = .ok (.putfield 109, 3) := by decide +kernel
theorem dX11_isBad_41 : decode cX11_isBad 41 = .ok (.return_, 1) := by decide +kernel
set_option maxRecDepth 20000 in
theorem ggX11_takes_X11_fails : GoodIn wsX11_takes wsX11_fails := goodIn_r _ [9, 4, 10, 32, 33, 34, 35, 36, 37, 38, 39, 40, 41, 42, 43, 44, 45, 46, 47, 48, 49, 50, 51, 52, 53, 54, 55, 56, 57, 58, 59, 60, 61] (by decide +kernel) (by decide +kernel)
set_option maxRecDepth 20000 in
theorem gX11_takes_X11_fails : GoodIn wsX11_takes (wsV RX11 112 RX11 yX11_fails wsX11_fails) := goodIn_app (goodIn_of _ (by decide +kernel)) ggX11_takes_X11_fails
set_option maxRecDepth 20000 in
theorem ggX11_takes_X11_in : GoodIn wsX11_takes wsX11_in := goodIn_r _ [13] (by decide +kernel) (by decide +kernel)
set_option maxRecDepth 20000 in
theorem gX11_takes_X11_in : GoodIn wsX11_takes (va_wsS RX11 70 yX11_in wsX11_in) := goodIn_app (goodIn_of _ (by decide +kernel)) ggX11_takes_X11_in
set_option maxRecDepth 20000 in
theorem ggX11_takes_X11_isBad : GoodIn wsX11_takes wsX11_isBad := goodIn_r _ [17, 18, 19, 32, 33, 34, 35, 36, 37, 38, 39, 40, 41, 42, 43, 44, 45, 46, 47, 48, 49, 50, 51, 52, 53, 54, 55, 56, 57, 58, 59, 60, 61] (by decide +kernel) (by decide +kernel)
set_option maxRecDepth 20000 in
theorem gX11_takes_X11_isBad : GoodIn wsX11_takes (wsV RX11 119 RX11 yX11_isBad wsX11_isBad) := goodIn_app (goodIn_of _ (by decide +kernel)) ggX11_takes_X11_isBad
set_option maxRecDepth 20000 in
theorem ggX11_takes_X11_token : GoodIn wsX11_takes wsX11_token := goodIn_r _ [23, 24, 4, 25, 1, 2, 26, 27, 28, 8, 29, 30, 31, 11, 12, 13, 32, 33, 34, 35, 36, 37, 38, 39, 40, 41, 42, 43, 44, 45, 46, 47, 48, 49, 50, 51, 52, 53, 54, 55, 56, 57, 58, 59, 60, 61] (by decide +kernel) (by decide +kernel)
set_option maxRecDepth 20000 in
theorem gX11_takes_X11_token : GoodIn wsX11_takes (wsV RX11 123 RX11 yX11_token wsX11_token) := goodIn_app (goodIn_of _ (by decide +kernel)) ggX11_takes_X11_token
theorem dX11_takes_0 : decode cX11_takes 0 = .ok (.aload_n 0, 1) := by decide +kernel
theorem dX11_takes_1 : decode cX11_takes 1 = .ok (.getfield 97, 3) := by decide +kernel
theorem dX11_takes_4 : decode cX11_takes 4 = .ok (.iconst 3, 1) := by decide +kernel
theorem dX11_takes_5 : decode cX11_takes 5 = .ok (.if_icmp .eq 8, 3) := by decide +kernel
theorem dX11_takes_8 : decode cX11_takes 8 = .ok (.aload_n 0, 1) := by decide +kernel
theorem dX11_takes_9 : decode cX11_takes 9 = .ok (.invokevirtual 112, 3) := by decide +kernel
theorem dX11_takes_12 : decode cX11_takes 12 = .ok (.ireturn, 1) := by decide +kernel
theorem dX11_takes_13 : decode cX11_takes 13 = .ok (.aload_n 0, 1) := by decide +kernel
theorem dX11_takes_14 : decode cX11_takes 14 = .ok (.aload_n 0, 1) := by decide +kernel
theorem dX11_takes_15 : decode cX11_takes 15 = .ok (.getfield 100, 3) := by decide +kernel
theorem dX11_takes_18 : decode cX11_takes 18 = .ok (.putfield 116, 3) := by decide +kernel
theorem dX11_takes_21 : decode cX11_takes 21 = .ok (.aload_n 0, 1) := by decide +kernel
theorem dX11_takes_22 : decode cX11_takes 22 = .ok (.getfield 100, 3) := by decide +kernel
theorem dX11_takes_25 : decode cX11_takes 25 = .ok (.iload_n 1, 1) := by decide +kernel
theorem dX11_takes_26 : decode cX11_takes 26 = .ok (.iload_n 2, 1) := by decide +kernel
theorem dX11_takes_27 : decode cX11_takes 27 = .ok (.invokestatic 70, 3) := by decide +kernel
theorem dX11_takes_30 : decode cX11_takes 30 = .ok (.ifCond .ne 12, 3) := by decide +kernel
theorem dX11_takes_33 : decode cX11_takes 33 = .ok (.aload_n 0, 1) := by decide +kernel
theorem dX11_takes_34 : decode cX11_takes 34 = .ok (.iconst 2, 1) := by decide +kernel
theorem dX11_takes_35 : decode cX11_takes 35 = .ok (.aload_n 0, 1) := by decide +kernel
theorem dX11_takes_36 : decode cX11_takes 36 = .ok (.getfield 90, 3) := by decide +kernel
theorem dX11_takes_39 : decode cX11_takes 39 = .ok (.invokevirtual 119, 3) := by decide +kernel
theorem dX11_takes_42 : decode cX11_takes 42 = .ok (.aload_n 0, 1) := by decide +kernel
theorem dX11_takes_43 : decode cX11_takes 43 = .ok (.invokevirtual 123, 3) := by decide +kernel
theorem dX11_takes_46 : decode cX11_takes 46 = .ok (.iconst 1, 1) := by decide +kernel
theorem dX11_takes_47 : decode cX11_takes 47 = .ok (.ireturn, 1) := by decide +kernel
theorem dX11_leastOf_0 : decode cX11_leastOf 0 = .ok (.iload_n 0, 1) := by decide +kernel
theorem dX11_leastOf_1 : decode cX11_leastOf 1 = .ok (.ifCond .ne 7, 3) := by decide +kernel
theorem dX11_leastOf_4 : decode cX11_leastOf 4 = .ok (.iconst 2, 1) := by decide +kernel
theorem dX11_leastOf_5 : decode cX11_leastOf 5 = .ok (.goto 18, 3) := by decide +kernel
theorem dX11_leastOf_8 : decode cX11_leastOf 8 = .ok (.iload_n 0, 1) := by decide +kernel
theorem dX11_leastOf_9 : decode cX11_leastOf 9 = .ok (.iconst 1, 1) := by decide +kernel
theorem dX11_leastOf_10 : decode cX11_leastOf 10 = .ok (.if_icmp .eq 8, 3) := by decide +kernel
theorem dX11_leastOf_13 : decode cX11_leastOf 13 = .ok (.iload_n 0, 1) := by decide +kernel
theorem dX11_leastOf_14 : decode cX11_leastOf 14 = .ok (.iconst 2, 1) := by decide +kernel
theorem dX11_leastOf_15 : decode cX11_leastOf 15 = .ok (.if_icmp .ne 7, 3) := by decide +kernel
theorem dX11_leastOf_18 : decode cX11_leastOf 18 = .ok (.iconst 0, 1) := by decide +kernel
theorem dX11_leastOf_19 : decode cX11_leastOf 19 = .ok (.goto 4, 3) := by decide +kernel
theorem dX11_leastOf_22 : decode cX11_leastOf 22 = .ok (.iconst 1, 1) := by decide +kernel
theorem dX11_leastOf_23 : decode cX11_leastOf 23 = .ok (.ireturn, 1) := by decide +kernel
theorem dX11_mostOf_0 : decode cX11_mostOf 0 = .ok (.iload_n 0, 1) := by decide +kernel
theorem dX11_mostOf_1 : decode cX11_mostOf 1 = .ok (.tableswitch 51 0 4 #[35, 39, 42, 45, 49], 35) := by decide +kernel
theorem dX11_mostOf_36 : decode cX11_mostOf 36 = .ok (.sipush 999, 3) := by decide +kernel
theorem dX11_mostOf_39 : decode cX11_mostOf 39 = .ok (.ireturn, 1) := by decide +kernel
theorem dX11_mostOf_40 : decode cX11_mostOf 40 = .ok (.bipush 49, 2) := by decide +kernel
theorem dX11_mostOf_42 : decode cX11_mostOf 42 = .ok (.ireturn, 1) := by decide +kernel
theorem dX11_mostOf_43 : decode cX11_mostOf 43 = .ok (.bipush 9, 2) := by decide +kernel
theorem dX11_mostOf_45 : decode cX11_mostOf 45 = .ok (.ireturn, 1) := by decide +kernel
theorem dX11_mostOf_46 : decode cX11_mostOf 46 = .ok (.sipush 1000, 3) := by decide +kernel
theorem dX11_mostOf_49 : decode cX11_mostOf 49 = .ok (.ireturn, 1) := by decide +kernel
theorem dX11_mostOf_50 : decode cX11_mostOf 50 = .ok (.iconst 5, 1) := by decide +kernel
theorem dX11_mostOf_51 : decode cX11_mostOf 51 = .ok (.ireturn, 1) := by decide +kernel
theorem dX11_mostOf_52 : decode cX11_mostOf 52 = .ok (.sipush 200, 3) := by decide +kernel
theorem dX11_mostOf_55 : decode cX11_mostOf 55 = .ok (.ireturn, 1) := by decide +kernel
theorem dX11_settingOf_0 : decode cX11_settingOf 0 = .ok (.lload_n 0, 1) := by decide +kernel
theorem dX11_settingOf_1 : decode cX11_settingOf 1 = .ok (.ldc2_w 126, 3) := by decide +kernel
theorem dX11_settingOf_4 : decode cX11_settingOf 4 = .ok (.lcmp, 1) := by decide +kernel
theorem dX11_settingOf_5 : decode cX11_settingOf 5 = .ok (.ifCond .ne 7, 3) := by decide +kernel
theorem dX11_settingOf_8 : decode cX11_settingOf 8 = .ok (.iconst 0, 1) := by decide +kernel
theorem dX11_settingOf_9 : decode cX11_settingOf 9 = .ok (.goto 77, 3) := by decide +kernel
theorem dX11_settingOf_12 : decode cX11_settingOf 12 = .ok (.lload_n 0, 1) := by decide +kernel
theorem dX11_settingOf_13 : decode cX11_settingOf 13 = .ok (.ldc2_w 128, 3) := by decide +kernel
theorem dX11_settingOf_16 : decode cX11_settingOf 16 = .ok (.lcmp, 1) := by decide +kernel
theorem dX11_settingOf_17 : decode cX11_settingOf 17 = .ok (.ifCond .ne 7, 3) := by decide +kernel
theorem dX11_settingOf_20 : decode cX11_settingOf 20 = .ok (.iconst 1, 1) := by decide +kernel
theorem dX11_settingOf_21 : decode cX11_settingOf 21 = .ok (.goto 65, 3) := by decide +kernel
theorem dX11_settingOf_24 : decode cX11_settingOf 24 = .ok (.lload_n 0, 1) := by decide +kernel
theorem dX11_settingOf_25 : decode cX11_settingOf 25 = .ok (.ldc2_w 130, 3) := by decide +kernel
theorem dX11_settingOf_28 : decode cX11_settingOf 28 = .ok (.lcmp, 1) := by decide +kernel
theorem dX11_settingOf_29 : decode cX11_settingOf 29 = .ok (.ifCond .ne 7, 3) := by decide +kernel
theorem dX11_settingOf_32 : decode cX11_settingOf 32 = .ok (.iconst 2, 1) := by decide +kernel
theorem dX11_settingOf_33 : decode cX11_settingOf 33 = .ok (.goto 53, 3) := by decide +kernel
theorem dX11_settingOf_36 : decode cX11_settingOf 36 = .ok (.lload_n 0, 1) := by decide +kernel
theorem dX11_settingOf_37 : decode cX11_settingOf 37 = .ok (.ldc2_w 132, 3) := by decide +kernel
theorem dX11_settingOf_40 : decode cX11_settingOf 40 = .ok (.lcmp, 1) := by decide +kernel
theorem dX11_settingOf_41 : decode cX11_settingOf 41 = .ok (.ifCond .ne 7, 3) := by decide +kernel
theorem dX11_settingOf_44 : decode cX11_settingOf 44 = .ok (.iconst 3, 1) := by decide +kernel
theorem dX11_settingOf_45 : decode cX11_settingOf 45 = .ok (.goto 41, 3) := by decide +kernel
theorem dX11_settingOf_48 : decode cX11_settingOf 48 = .ok (.lload_n 0, 1) := by decide +kernel
theorem dX11_settingOf_49 : decode cX11_settingOf 49 = .ok (.ldc2_w 134, 3) := by decide +kernel
theorem dX11_settingOf_52 : decode cX11_settingOf 52 = .ok (.lcmp, 1) := by decide +kernel
theorem dX11_settingOf_53 : decode cX11_settingOf 53 = .ok (.ifCond .ne 7, 3) := by decide +kernel
theorem dX11_settingOf_56 : decode cX11_settingOf 56 = .ok (.iconst 4, 1) := by decide +kernel
theorem dX11_settingOf_57 : decode cX11_settingOf 57 = .ok (.goto 29, 3) := by decide +kernel
theorem dX11_settingOf_60 : decode cX11_settingOf 60 = .ok (.lload_n 0, 1) := by decide +kernel
theorem dX11_settingOf_61 : decode cX11_settingOf 61 = .ok (.ldc2_w 136, 3) := by decide +kernel
theorem dX11_settingOf_64 : decode cX11_settingOf 64 = .ok (.lcmp, 1) := by decide +kernel
theorem dX11_settingOf_65 : decode cX11_settingOf 65 = .ok (.ifCond .ne 7, 3) := by decide +kernel
theorem dX11_settingOf_68 : decode cX11_settingOf 68 = .ok (.iconst 5, 1) := by decide +kernel
theorem dX11_settingOf_69 : decode cX11_settingOf 69 = .ok (.goto 17, 3) := by decide +kernel
theorem dX11_settingOf_72 : decode cX11_settingOf 72 = .ok (.lload_n 0, 1) := by decide +kernel
theorem dX11_settingOf_73 : decode cX11_settingOf 73 = .ok (.ldc2_w 138, 3) := by decide +kernel
theorem dX11_settingOf_76 : decode cX11_settingOf 76 = .ok (.lcmp, 1) := by decide +kernel
theorem dX11_settingOf_77 : decode cX11_settingOf 77 = .ok (.ifCond .ne 8, 3) := by decide +kernel
theorem dX11_settingOf_80 : decode cX11_settingOf 80 = .ok (.bipush 6, 2) := by decide +kernel
