theorem dX11_order_48 : decode cX11_order 48 = .ok (.ireturn, 1) := by decide +kernel
theorem dX11_order_49 : decode cX11_order 49 = .ok (.aload_n 0, 1) := by decide +kernel
theorem dX11_order_50 : decode cX11_order 50 = .ok (.invokevirtual 305, 3) := by decide +kernel
theorem dX11_order_53 : decode cX11_order 53 = .ok (.iconst (-1), 1) := by decide +kernel
theorem dX11_order_54 : decode cX11_order 54 = .ok (.istore_n 3, 1) := by decide +kernel
theorem dX11_order_55 : decode cX11_order 55 = .ok (.iconst 1, 1) := by decide +kernel
theorem dX11_order_56 : decode cX11_order 56 = .ok (.istore 4, 2) := by decide +kernel
theorem dX11_order_58 : decode cX11_order 58 = .ok (.iload 4, 2) := by decide +kernel
theorem dX11_order_60 : decode cX11_order 60 = .ok (.ifCond .eq 75, 3) := by decide +kernel
theorem dX11_order_63 : decode cX11_order 63 = .ok (.aload_n 0, 1) := by decide +kernel
theorem dX11_order_64 : decode cX11_order 64 = .ok (.iconst 0, 1) := by decide +kernel
theorem dX11_order_65 : decode cX11_order 65 = .ok (.iload_n 1, 1) := by decide +kernel
theorem dX11_order_66 : decode cX11_order 66 = .ok (.iconst 0, 1) := by decide +kernel
theorem dX11_order_67 : decode cX11_order 67 = .ok (.invokevirtual 308, 3) := by decide +kernel
theorem dX11_order_70 : decode cX11_order 70 = .ok (.aload_n 0, 1) := by decide +kernel
theorem dX11_order_71 : decode cX11_order 71 = .ok (.iload_n 1, 1) := by decide +kernel
theorem dX11_order_72 : decode cX11_order 72 = .ok (.iconst 3, 1) := by decide +kernel
theorem dX11_order_73 : decode cX11_order 73 = .ok (.invokevirtual 315, 3) := by decide +kernel
theorem dX11_order_76 : decode cX11_order 76 = .ok (.istore 5, 2) := by decide +kernel
theorem dX11_order_78 : decode cX11_order 78 = .ok (.iload_n 3, 1) := by decide +kernel
theorem dX11_order_79 : decode cX11_order 79 = .ok (.iconst (-1), 1) := by decide +kernel
theorem dX11_order_80 : decode cX11_order 80 = .ok (.if_icmp .eq 9, 3) := by decide +kernel
theorem dX11_order_83 : decode cX11_order 83 = .ok (.iload 5, 2) := by decide +kernel
theorem dX11_order_85 : decode cX11_order 85 = .ok (.iload_n 3, 1) := by decide +kernel
theorem dX11_order_86 : decode cX11_order 86 = .ok (.if_icmp .ge 40, 3) := by decide +kernel
theorem dX11_order_89 : decode cX11_order 89 = .ok (.iload 5, 2) := by decide +kernel
theorem dX11_order_91 : decode cX11_order 91 = .ok (.istore_n 3, 1) := by decide +kernel
theorem dX11_order_92 : decode cX11_order 92 = .ok (.iconst 0, 1) := by decide +kernel
theorem dX11_order_93 : decode cX11_order 93 = .ok (.istore 6, 2) := by decide +kernel
theorem dX11_order_95 : decode cX11_order 95 = .ok (.iload 6, 2) := by decide +kernel
theorem dX11_order_97 : decode cX11_order 97 = .ok (.aload_n 0, 1) := by decide +kernel
theorem dX11_order_98 : decode cX11_order 98 = .ok (.getfield 7, 3) := by decide +kernel
theorem dX11_order_101 : decode cX11_order 101 = .ok (.iconst 0, 1) := by decide +kernel
theorem dX11_order_102 : decode cX11_order 102 = .ok (.iaload, 1) := by decide +kernel
theorem dX11_order_103 : decode cX11_order 103 = .ok (.if_icmp .ge 23, 3) := by decide +kernel
theorem dX11_order_106 : decode cX11_order 106 = .ok (.aload_n 0, 1) := by decide +kernel
theorem dX11_order_107 : decode cX11_order 107 = .ok (.getfield 51, 3) := by decide +kernel
theorem dX11_order_110 : decode cX11_order 110 = .ok (.iload 6, 2) := by decide +kernel
theorem dX11_order_112 : decode cX11_order 112 = .ok (.aload_n 0, 1) := by decide +kernel
theorem dX11_order_113 : decode cX11_order 113 = .ok (.getfield 48, 3) := by decide +kernel
theorem dX11_order_116 : decode cX11_order 116 = .ok (.iload 6, 2) := by decide +kernel
theorem dX11_order_118 : decode cX11_order 118 = .ok (.iaload, 1) := by decide +kernel
theorem dX11_order_119 : decode cX11_order 119 = .ok (.iastore, 1) := by decide +kernel
theorem dX11_order_120 : decode cX11_order 120 = .ok (.iinc 6 1, 3) := by decide +kernel
theorem dX11_order_123 : decode cX11_order 123 = .ok (.goto (-28), 3) := by decide +kernel
theorem dX11_order_126 : decode cX11_order 126 = .ok (.aload_n 0, 1) := by decide +kernel
theorem dX11_order_127 : decode cX11_order 127 = .ok (.invokevirtual 318, 3) := by decide +kernel
theorem dX11_order_130 : decode cX11_order 130 = .ok (.istore 4, 2) := by decide +kernel
theorem dX11_order_132 : decode cX11_order 132 = .ok (.goto (-74), 3) := by decide +kernel
theorem dX11_order_135 : decode cX11_order 135 = .ok (.iload_n 2, 1) := by decide +kernel
theorem dX11_order_136 : decode cX11_order 136 = .ok (.ifCond .ne 7, 3) := by decide +kernel
theorem dX11_order_139 : decode cX11_order 139 = .ok (.iload_n 3, 1) := by decide +kernel
theorem dX11_order_140 : decode cX11_order 140 = .ok (.goto 16, 3) := by decide +kernel
theorem dX11_order_143 : decode cX11_order 143 = .ok (.aload_n 0, 1) := by decide +kernel
theorem dX11_order_144 : decode cX11_order 144 = .ok (.aload_n 0, 1) := by decide +kernel
theorem dX11_order_145 : decode cX11_order 145 = .ok (.getfield 51, 3) := by decide +kernel
theorem dX11_order_148 : decode cX11_order 148 = .ok (.iload_n 2, 1) := by decide +kernel
theorem dX11_order_149 : decode cX11_order 149 = .ok (.bipush 10, 2) := by decide +kernel
theorem dX11_order_151 : decode cX11_order 151 = .ok (.isub, 1) := by decide +kernel
theorem dX11_order_152 : decode cX11_order 152 = .ok (.iaload, 1) := by decide +kernel
theorem dX11_order_153 : decode cX11_order 153 = .ok (.invokevirtual 185, 3) := by decide +kernel
theorem dX11_order_156 : decode cX11_order 156 = .ok (.ireturn, 1) := by decide +kernel
set_option maxRecDepth 20000 in
theorem ggX11_isFit_X11_measure : GoodIn wsX11_isFit wsX11_measure := goodIn_r _ [6] (by decide +kernel) (by decide +kernel)
set_option maxRecDepth 20000 in
theorem gX11_isFit_X11_measure : GoodIn wsX11_isFit (va_wsS RX11 279 yX11_measure wsX11_measure) := goodIn_app (goodIn_of _ (by decide +kernel)) ggX11_isFit_X11_measure
set_option maxRecDepth 20000 in
theorem ggX11_isFit_X11_lesser : GoodIn wsX11_isFit wsX11_lesser := goodIn_r _ [9] (by decide +kernel) (by decide +kernel)
set_option maxRecDepth 20000 in
theorem gX11_isFit_X11_lesser : GoodIn wsX11_isFit (va_wsS RX11 209 yX11_lesser wsX11_lesser) := goodIn_app (goodIn_of _ (by decide +kernel)) ggX11_isFit_X11_lesser
set_option maxRecDepth 20000 in
theorem ggX11_isFit_X11_isBlind : GoodIn wsX11_isFit wsX11_isBlind := goodIn_r _ [13, 2, 14, 15, 5, 16, 17, 18, 19, 20, 21, 22, 23, 24, 25, 26, 27, 28, 29, 30, 31, 32, 33, 34, 35, 36, 37, 38, 39, 40, 41, 42, 43, 44, 45, 46] (by decide +kernel) (by decide +kernel)
set_option maxRecDepth 20000 in
theorem gX11_isFit_X11_isBlind : GoodIn wsX11_isFit (wsV RX11 215 RX11 yX11_isBlind wsX11_isBlind) := goodIn_app (goodIn_of _ (by decide +kernel)) ggX11_isFit_X11_isBlind
theorem dX11_isFit_0 : decode cX11_isFit 0 = .ok (.lconst 1, 1) := by decide +kernel
theorem dX11_isFit_1 : decode cX11_isFit 1 = .ok (.lstore_n 2, 1) := by decide +kernel
theorem dX11_isFit_2 : decode cX11_isFit 2 = .ok (.iconst 0, 1) := by decide +kernel
theorem dX11_isFit_3 : decode cX11_isFit 3 = .ok (.istore 4, 2) := by decide +kernel
theorem dX11_isFit_5 : decode cX11_isFit 5 = .ok (.iload 4, 2) := by decide +kernel
theorem dX11_isFit_7 : decode cX11_isFit 7 = .ok (.iload_n 1, 1) := by decide +kernel
theorem dX11_isFit_8 : decode cX11_isFit 8 = .ok (.if_icmp .ge 33, 3) := by decide +kernel
theorem dX11_isFit_11 : decode cX11_isFit 11 = .ok (.lload_n 2, 1) := by decide +kernel
theorem dX11_isFit_12 : decode cX11_isFit 12 = .ok (.lload_n 2, 1) := by decide +kernel
theorem dX11_isFit_13 : decode cX11_isFit 13 = .ok (.aload_n 0, 1) := by decide +kernel
theorem dX11_isFit_14 : decode cX11_isFit 14 = .ok (.getfield 54, 3) := by decide +kernel
theorem dX11_isFit_17 : decode cX11_isFit 17 = .ok (.iload 4, 2) := by decide +kernel
theorem dX11_isFit_19 : decode cX11_isFit 19 = .ok (.iaload, 1) := by decide +kernel
theorem dX11_isFit_20 : decode cX11_isFit 20 = .ok (.i2l, 1) := by decide +kernel
theorem dX11_isFit_21 : decode cX11_isFit 21 = .ok (.invokestatic 279, 3) := by decide +kernel
theorem dX11_isFit_24 : decode cX11_isFit 24 = .ok (.ldiv, 1) := by decide +kernel
theorem dX11_isFit_25 : decode cX11_isFit 25 = .ok (.aload_n 0, 1) := by decide +kernel
theorem dX11_isFit_26 : decode cX11_isFit 26 = .ok (.getfield 54, 3) := by decide +kernel
theorem dX11_isFit_29 : decode cX11_isFit 29 = .ok (.iload 4, 2) := by decide +kernel
theorem dX11_isFit_31 : decode cX11_isFit 31 = .ok (.iaload, 1) := by decide +kernel
theorem dX11_isFit_32 : decode cX11_isFit 32 = .ok (.i2l, 1) := by decide +kernel
theorem dX11_isFit_33 : decode cX11_isFit 33 = .ok (.lmul, 1) := by decide +kernel
theorem dX11_isFit_34 : decode cX11_isFit 34 = .ok (.lstore_n 2, 1) := by decide +kernel
theorem dX11_isFit_35 : decode cX11_isFit 35 = .ok (.iinc 4 1, 3) := by decide +kernel
theorem dX11_isFit_38 : decode cX11_isFit 38 = .ok (.goto (-33), 3) := by decide +kernel
theorem dX11_isFit_41 : decode cX11_isFit 41 = .ok (.aload_n 0, 1) := by decide +kernel
theorem dX11_isFit_42 : decode cX11_isFit 42 = .ok (.getfield 7, 3) := by decide +kernel
theorem dX11_isFit_45 : decode cX11_isFit 45 = .ok (.bipush 10, 2) := by decide +kernel
theorem dX11_isFit_47 : decode cX11_isFit 47 = .ok (.iaload, 1) := by decide +kernel
theorem dX11_isFit_48 : decode cX11_isFit 48 = .ok (.iload_n 1, 1) := by decide +kernel
theorem dX11_isFit_49 : decode cX11_isFit 49 = .ok (.invokestatic 209, 3) := by decide +kernel
theorem dX11_isFit_52 : decode cX11_isFit 52 = .ok (.istore 4, 2) := by decide +kernel
theorem dX11_isFit_54 : decode cX11_isFit 54 = .ok (.lload_n 2, 1) := by decide +kernel
theorem dX11_isFit_55 : decode cX11_isFit 55 = .ok (.aload_n 0, 1) := by decide +kernel
theorem dX11_isFit_56 : decode cX11_isFit 56 = .ok (.getfield 7, 3) := by decide +kernel
theorem dX11_isFit_59 : decode cX11_isFit 59 = .ok (.bipush 9, 2) := by decide +kernel
theorem dX11_isFit_61 : decode cX11_isFit 61 = .ok (.iaload, 1) := by decide +kernel
theorem dX11_isFit_62 : decode cX11_isFit 62 = .ok (.i2l, 1) := by decide +kernel
theorem dX11_isFit_63 : decode cX11_isFit 63 = .ok (.lcmp, 1) := by decide +kernel
theorem dX11_isFit_64 : decode cX11_isFit 64 = .ok (.ifCond .lt 7, 3) := by decide +kernel
theorem dX11_isFit_67 : decode cX11_isFit 67 = .ok (.iconst 1, 1) := by decide +kernel
theorem dX11_isFit_68 : decode cX11_isFit 68 = .ok (.goto 4, 3) := by decide +kernel
theorem dX11_isFit_71 : decode cX11_isFit 71 = .ok (.iconst 0, 1) := by decide +kernel
theorem dX11_isFit_72 : decode cX11_isFit 72 = .ok (.istore 5, 2) := by decide +kernel
theorem dX11_isFit_74 : decode cX11_isFit 74 = .ok (.iconst 1, 1) := by decide +kernel
theorem dX11_isFit_75 : decode cX11_isFit 75 = .ok (.istore 6, 2) := by decide +kernel
theorem dX11_isFit_77 : decode cX11_isFit 77 = .ok (.iload 6, 2) := by decide +kernel
theorem dX11_isFit_79 : decode cX11_isFit 79 = .ok (.aload_n 0, 1) := by decide +kernel
theorem dX11_isFit_80 : decode cX11_isFit 80 = .ok (.getfield 7, 3) := by decide +kernel
theorem dX11_isFit_83 : decode cX11_isFit 83 = .ok (.bipush 11, 2) := by decide +kernel
theorem dX11_isFit_85 : decode cX11_isFit 85 = .ok (.iaload, 1) := by decide +kernel
theorem dX11_isFit_86 : decode cX11_isFit 86 = .ok (.if_icmp .gt 72, 3) := by decide +kernel
theorem dX11_isFit_89 : decode cX11_isFit 89 = .ok (.iload 5, 2) := by decide +kernel
theorem dX11_isFit_91 : decode cX11_isFit 91 = .ok (.ifCond .eq 67, 3) := by decide +kernel
theorem dX11_isFit_94 : decode cX11_isFit 94 = .ok (.iconst 0, 1) := by decide +kernel
theorem dX11_isFit_95 : decode cX11_isFit 95 = .ok (.istore 7, 2) := by decide +kernel
theorem dX11_isFit_97 : decode cX11_isFit 97 = .ok (.iconst 0, 1) := by decide +kernel
theorem dX11_isFit_98 : decode cX11_isFit 98 = .ok (.istore 8, 2) := by decide +kernel
theorem dX11_isFit_100 : decode cX11_isFit 100 = .ok (.iload 8, 2) := by decide +kernel
theorem dX11_isFit_102 : decode cX11_isFit 102 = .ok (.iload_n 1, 1) := by decide +kernel
theorem dX11_isFit_103 : decode cX11_isFit 103 = .ok (.if_icmp .ge 35, 3) := by decide +kernel
theorem dX11_isFit_106 : decode cX11_isFit 106 = .ok (.iload 7, 2) := by decide +kernel
theorem dX11_isFit_108 : decode cX11_isFit 108 = .ok (.aload_n 0, 1) := by decide +kernel
theorem dX11_isFit_109 : decode cX11_isFit 109 = .ok (.iload 6, 2) := by decide +kernel
theorem dX11_isFit_111 : decode cX11_isFit 111 = .ok (.aload_n 0, 1) := by decide +kernel
theorem dX11_isFit_112 : decode cX11_isFit 112 = .ok (.getfield 54, 3) := by decide +kernel
theorem dX11_isFit_115 : decode cX11_isFit 115 = .ok (.iload 8, 2) := by decide +kernel
theorem dX11_isFit_117 : decode cX11_isFit 117 = .ok (.iaload, 1) := by decide +kernel
theorem dX11_isFit_118 : decode cX11_isFit 118 = .ok (.invokevirtual 215, 3) := by decide +kernel
theorem dX11_isFit_121 : decode cX11_isFit 121 = .ok (.ifCond .eq 7, 3) := by decide +kernel
theorem dX11_isFit_124 : decode cX11_isFit 124 = .ok (.iconst 0, 1) := by decide +kernel
theorem dX11_isFit_125 : decode cX11_isFit 125 = .ok (.goto 4, 3) := by decide +kernel
theorem dX11_isFit_128 : decode cX11_isFit 128 = .ok (.iconst 1, 1) := by decide +kernel
theorem dX11_isFit_129 : decode cX11_isFit 129 = .ok (.iadd, 1) := by decide +kernel
theorem dX11_isFit_130 : decode cX11_isFit 130 = .ok (.istore 7, 2) := by decide +kernel
theorem dX11_isFit_132 : decode cX11_isFit 132 = .ok (.iinc 8 1, 3) := by decide +kernel
theorem dX11_isFit_135 : decode cX11_isFit 135 = .ok (.goto (-35), 3) := by decide +kernel
theorem dX11_isFit_138 : decode cX11_isFit 138 = .ok (.iload 7, 2) := by decide +kernel
theorem dX11_isFit_140 : decode cX11_isFit 140 = .ok (.iload 4, 2) := by decide +kernel
theorem dX11_isFit_142 : decode cX11_isFit 142 = .ok (.if_icmp .lt 7, 3) := by decide +kernel
theorem dX11_isFit_145 : decode cX11_isFit 145 = .ok (.iconst 1, 1) := by decide +kernel
theorem dX11_isFit_146 : decode cX11_isFit 146 = .ok (.goto 4, 3) := by decide +kernel
theorem dX11_isFit_149 : decode cX11_isFit 149 = .ok (.iconst 0, 1) := by decide +kernel
theorem dX11_isFit_150 : decode cX11_isFit 150 = .ok (.istore 5, 2) := by decide +kernel
theorem dX11_isFit_152 : decode cX11_isFit 152 = .ok (.iinc 6 1, 3) := by decide +kernel
theorem dX11_isFit_155 : decode cX11_isFit 155 = .ok (.goto (-78), 3) := by decide +kernel
theorem dX11_isFit_158 : decode cX11_isFit 158 = .ok (.iload 5, 2) := by decide +kernel
theorem dX11_isFit_160 : decode cX11_isFit 160 = .ok (.ireturn, 1) := by decide +kernel
theorem dX11_nextChosen_0 : decode cX11_nextChosen 0 = .ok (.iload_n 1, 1) := by decide +kernel
theorem dX11_nextChosen_1 : decode cX11_nextChosen 1 = .ok (.iconst 1, 1) := by decide +kernel
theorem dX11_nextChosen_2 : decode cX11_nextChosen 2 = .ok (.isub, 1) := by decide +kernel
theorem dX11_nextChosen_3 : decode cX11_nextChosen 3 = .ok (.istore_n 3, 1) := by decide +kernel
theorem dX11_nextChosen_4 : decode cX11_nextChosen 4 = .ok (.iload_n 3, 1) := by decide +kernel
theorem dX11_nextChosen_5 : decode cX11_nextChosen 5 = .ok (.ifCond .lt 25, 3) := by decide +kernel
theorem dX11_nextChosen_8 : decode cX11_nextChosen 8 = .ok (.aload_n 0, 1) := by decide +kernel
theorem dX11_nextChosen_9 : decode cX11_nextChosen 9 = .ok (.getfield 54, 3) := by decide +kernel
theorem dX11_nextChosen_12 : decode cX11_nextChosen 12 = .ok (.iload_n 3, 1) := by decide +kernel
theorem dX11_nextChosen_13 : decode cX11_nextChosen 13 = .ok (.iaload, 1) := by decide +kernel
theorem dX11_nextChosen_14 : decode cX11_nextChosen 14 = .ok (.iload_n 2, 1) := by decide +kernel
theorem dX11_nextChosen_15 : decode cX11_nextChosen 15 = .ok (.iload_n 1, 1) := by decide +kernel
theorem dX11_nextChosen_16 : decode cX11_nextChosen 16 = .ok (.iconst 1, 1) := by decide +kernel
theorem dX11_nextChosen_17 : decode cX11_nextChosen 17 = .ok (.isub, 1) := by decide +kernel
theorem dX11_nextChosen_18 : decode cX11_nextChosen 18 = .ok (.iload_n 3, 1) := by decide +kernel
theorem dX11_nextChosen_19 : decode cX11_nextChosen 19 = .ok (.isub, 1) := by decide +kernel
theorem dX11_nextChosen_20 : decode cX11_nextChosen 20 = .ok (.isub, 1) := by decide +kernel
theorem dX11_nextChosen_21 : decode cX11_nextChosen 21 = .ok (.if_icmp .ne 9, 3) := by decide +kernel
theorem dX11_nextChosen_24 : decode cX11_nextChosen 24 = .ok (.iinc 3 (-1), 3) := by decide +kernel
theorem dX11_nextChosen_27 : decode cX11_nextChosen 27 = .ok (.goto (-23), 3) := by decide +kernel
theorem dX11_nextChosen_30 : decode cX11_nextChosen 30 = .ok (.iload_n 3, 1) := by decide +kernel
theorem dX11_nextChosen_31 : decode cX11_nextChosen 31 = .ok (.ifCond .ge 5, 3) := by decide +kernel
theorem dX11_nextChosen_34 : decode cX11_nextChosen 34 = .ok (.iconst 0, 1) := by decide +kernel
theorem dX11_nextChosen_35 : decode cX11_nextChosen 35 = .ok (.ireturn, 1) := by decide +kernel
theorem dX11_nextChosen_36 : decode cX11_nextChosen 36 = .ok (.aload_n 0, 1) := by decide +kernel
theorem dX11_nextChosen_37 : decode cX11_nextChosen 37 = .ok (.getfield 54, 3) := by decide +kernel
theorem dX11_nextChosen_40 : decode cX11_nextChosen 40 = .ok (.iload_n 3, 1) := by decide +kernel
theorem dX11_nextChosen_41 : decode cX11_nextChosen 41 = .ok (.dup2, 1) := by decide +kernel
theorem dX11_nextChosen_42 : decode cX11_nextChosen 42 = .ok (.iaload, 1) := by decide +kernel
theorem dX11_nextChosen_43 : decode cX11_nextChosen 43 = .ok (.iconst 1, 1) := by decide +kernel
theorem dX11_nextChosen_44 : decode cX11_nextChosen 44 = .ok (.iadd, 1) := by decide +kernel
theorem dX11_nextChosen_45 : decode cX11_nextChosen 45 = .ok (.iastore, 1) := by decide +kernel
theorem dX11_nextChosen_46 : decode cX11_nextChosen 46 = .ok (.iload_n 3, 1) := by decide +kernel
theorem dX11_nextChosen_47 : decode cX11_nextChosen 47 = .ok (.iconst 1, 1) := by decide +kernel
theorem dX11_nextChosen_48 : decode cX11_nextChosen 48 = .ok (.iadd, 1) := by decide +kernel
theorem dX11_nextChosen_49 : decode cX11_nextChosen 49 = .ok (.istore 4, 2) := by decide +kernel
theorem dX11_nextChosen_51 : decode cX11_nextChosen 51 = .ok (.iload 4, 2) := by decide +kernel
theorem dX11_nextChosen_53 : decode cX11_nextChosen 53 = .ok (.iload_n 1, 1) := by decide +kernel
theorem dX11_nextChosen_54 : decode cX11_nextChosen 54 = .ok (.if_icmp .ge 27, 3) := by decide +kernel
theorem dX11_nextChosen_57 : decode cX11_nextChosen 57 = .ok (.aload_n 0, 1) := by decide +kernel
theorem dX11_nextChosen_58 : decode cX11_nextChosen 58 = .ok (.getfield 54, 3) := by decide +kernel
theorem dX11_nextChosen_61 : decode cX11_nextChosen 61 = .ok (.iload 4, 2) := by decide +kernel
theorem dX11_nextChosen_63 : decode cX11_nextChosen 63 = .ok (.aload_n 0, 1) := by decide +kernel
theorem dX11_nextChosen_64 : decode cX11_nextChosen 64 = .ok (.getfield 54, 3) := by decide +kernel
theorem dX11_nextChosen_67 : decode cX11_nextChosen 67 = .ok (.iload 4, 2) := by decide +kernel
theorem dX11_nextChosen_69 : decode cX11_nextChosen 69 = .ok (.iconst 1, 1) := by decide +kernel
theorem dX11_nextChosen_70 : decode cX11_nextChosen 70 = .ok (.isub, 1) := by decide +kernel
theorem dX11_nextChosen_71 : decode cX11_nextChosen 71 = .ok (.iaload, 1) := by decide +kernel
theorem dX11_nextChosen_72 : decode cX11_nextChosen 72 = .ok (.iconst 1, 1) := by decide +kernel
theorem dX11_nextChosen_73 : decode cX11_nextChosen 73 = .ok (.iadd, 1) := by decide +kernel
theorem dX11_nextChosen_74 : decode cX11_nextChosen 74 = .ok (.iastore, 1) := by decide +kernel
theorem dX11_nextChosen_75 : decode cX11_nextChosen 75 = .ok (.iinc 4 1, 3) := by decide +kernel
theorem dX11_nextChosen_78 : decode cX11_nextChosen 78 = .ok (.goto (-27), 3) := by decide +kernel
theorem dX11_nextChosen_81 : decode cX11_nextChosen 81 = .ok (.iconst 1, 1) := by decide +kernel
theorem dX11_nextChosen_82 : decode cX11_nextChosen 82 = .ok (.ireturn, 1) := by decide +kernel
set_option maxRecDepth 20000 in
theorem ggX11_choose_X11_in : GoodIn wsX11_choose wsX11_in := goodIn_r _ [7] (by decide +kernel) (by decide +kernel)
set_option maxRecDepth 20000 in
theorem gX11_choose_X11_in : GoodIn wsX11_choose (va_wsS RX11 70 yX11_in wsX11_in) := goodIn_app (goodIn_of _ (by decide +kernel)) ggX11_choose_X11_in
set_option maxRecDepth 20000 in
theorem ggX11_choose_X11_lesser : GoodIn wsX11_choose wsX11_lesser := goodIn_r _ [10] (by decide +kernel) (by decide +kernel)
set_option maxRecDepth 20000 in
theorem gX11_choose_X11_lesser : GoodIn wsX11_choose (va_wsS RX11 209 yX11_lesser wsX11_lesser) := goodIn_app (goodIn_of _ (by decide +kernel)) ggX11_choose_X11_lesser
set_option maxRecDepth 20000 in
theorem ggX11_choose_X11_isFit : GoodIn wsX11_choose wsX11_isFit := goodIn_r _ [14, 2, 15, 16, 17, 6, 18, 8, 9, 10, 19, 20, 21, 22, 23, 24, 25, 30, 31, 32, 33, 34, 35, 36, 37, 38, 39, 40, 41, 42, 43, 44, 45, 46, 47, 48, 49, 50, 51, 52, 53, 54, 55, 56, 57, 58, 59] (by decide +kernel) (by decide +kernel)
set_option maxRecDepth 20000 in
theorem gX11_choose_X11_isFit : GoodIn wsX11_choose (wsV RX11 321 RX11 yX11_isFit wsX11_isFit) := goodIn_app (goodIn_of _ (by decide +kernel)) ggX11_choose_X11_isFit
set_option maxRecDepth 20000 in
theorem ggX11_choose_X11_nextChosen : GoodIn wsX11_choose wsX11_nextChosen := goodIn_r _ [29, 2, 30, 31, 32, 33, 34, 35, 36, 37, 38, 39, 40, 41, 42, 43, 44, 45, 46, 47, 48, 49, 50, 51, 52, 53, 54, 55, 56, 57, 58, 59] (by decide +kernel) (by decide +kernel)
set_option maxRecDepth 20000 in
theorem gX11_choose_X11_nextChosen : GoodIn wsX11_choose (wsV RX11 324 RX11 yX11_nextChosen wsX11_nextChosen) := goodIn_app (goodIn_of _ (by decide +kernel)) ggX11_choose_X11_nextChosen
theorem dX11_choose_0 : decode cX11_choose 0 = .ok (.aload_n 0, 1) := by decide +kernel
theorem dX11_choose_1 : decode cX11_choose 1 = .ok (.iconst 0, 1) := by decide +kernel
theorem dX11_choose_2 : decode cX11_choose 2 = .ok (.putfield 66, 3) := by decide +kernel
theorem dX11_choose_5 : decode cX11_choose 5 = .ok (.iload_n 1, 1) := by decide +kernel
theorem dX11_choose_6 : decode cX11_choose 6 = .ok (.iconst 2, 1) := by decide +kernel
theorem dX11_choose_7 : decode cX11_choose 7 = .ok (.iconst 4, 1) := by decide +kernel
theorem dX11_choose_8 : decode cX11_choose 8 = .ok (.invokestatic 70, 3) := by decide +kernel
theorem dX11_choose_11 : decode cX11_choose 11 = .ok (.ifCond .eq 55, 3) := by decide +kernel
theorem dX11_choose_14 : decode cX11_choose 14 = .ok (.iload_n 2, 1) := by decide +kernel
theorem dX11_choose_15 : decode cX11_choose 15 = .ok (.iconst 4, 1) := by decide +kernel
theorem dX11_choose_16 : decode cX11_choose 16 = .ok (.bipush 60, 2) := by decide +kernel
theorem dX11_choose_18 : decode cX11_choose 18 = .ok (.invokestatic 70, 3) := by decide +kernel
theorem dX11_choose_21 : decode cX11_choose 21 = .ok (.ifCond .eq 45, 3) := by decide +kernel
theorem dX11_choose_24 : decode cX11_choose 24 = .ok (.iload_n 3, 1) := by decide +kernel
theorem dX11_choose_25 : decode cX11_choose 25 = .ok (.iload_n 2, 1) := by decide +kernel
theorem dX11_choose_26 : decode cX11_choose 26 = .ok (.bipush 60, 2) := by decide +kernel
theorem dX11_choose_28 : decode cX11_choose 28 = .ok (.iload_n 2, 1) := by decide +kernel
theorem dX11_choose_29 : decode cX11_choose 29 = .ok (.bipush 20, 2) := by decide +kernel
theorem dX11_choose_31 : decode cX11_choose 31 = .ok (.iadd, 1) := by decide +kernel
theorem dX11_choose_32 : decode cX11_choose 32 = .ok (.invokestatic 209, 3) := by decide +kernel
theorem dX11_choose_35 : decode cX11_choose 35 = .ok (.invokestatic 70, 3) := by decide +kernel
theorem dX11_choose_38 : decode cX11_choose 38 = .ok (.ifCond .eq 28, 3) := by decide +kernel
theorem dX11_choose_41 : decode cX11_choose 41 = .ok (.iload 4, 2) := by decide +kernel
theorem dX11_choose_43 : decode cX11_choose 43 = .ok (.iconst 0, 1) := by decide +kernel
theorem dX11_choose_44 : decode cX11_choose 44 = .ok (.iconst 1, 1) := by decide +kernel
theorem dX11_choose_45 : decode cX11_choose 45 = .ok (.invokestatic 70, 3) := by decide +kernel
theorem dX11_choose_48 : decode cX11_choose 48 = .ok (.ifCond .ne 20, 3) := by decide +kernel
theorem dX11_choose_51 : decode cX11_choose 51 = .ok (.iload 4, 2) := by decide +kernel
theorem dX11_choose_53 : decode cX11_choose 53 = .ok (.bipush 10, 2) := by decide +kernel
theorem dX11_choose_55 : decode cX11_choose 55 = .ok (.isub, 1) := by decide +kernel
theorem dX11_choose_56 : decode cX11_choose 56 = .ok (.iconst 0, 1) := by decide +kernel
theorem dX11_choose_57 : decode cX11_choose 57 = .ok (.iload_n 1, 1) := by decide +kernel
theorem dX11_choose_58 : decode cX11_choose 58 = .ok (.iconst 1, 1) := by decide +kernel
theorem dX11_choose_59 : decode cX11_choose 59 = .ok (.isub, 1) := by decide +kernel
theorem dX11_choose_60 : decode cX11_choose 60 = .ok (.invokestatic 70, 3) := by decide +kernel
theorem dX11_choose_63 : decode cX11_choose 63 = .ok (.ifCond .ne 5, 3) := by decide +kernel
theorem dX11_choose_66 : decode cX11_choose 66 = .ok (.iconst (-1), 1) := by decide +kernel
theorem dX11_choose_67 : decode cX11_choose 67 = .ok (.ireturn, 1) := by decide +kernel
theorem dX11_choose_68 : decode cX11_choose 68 = .ok (.iconst 0, 1) := by decide +kernel
theorem dX11_choose_69 : decode cX11_choose 69 = .ok (.istore 5, 2) := by decide +kernel
theorem dX11_choose_71 : decode cX11_choose 71 = .ok (.iload 5, 2) := by decide +kernel
theorem dX11_choose_73 : decode cX11_choose 73 = .ok (.iload_n 1, 1) := by decide +kernel
theorem dX11_choose_74 : decode cX11_choose 74 = .ok (.if_icmp .ge 20, 3) := by decide +kernel
theorem dX11_choose_77 : decode cX11_choose 77 = .ok (.aload_n 0, 1) := by decide +kernel
theorem dX11_choose_78 : decode cX11_choose 78 = .ok (.getfield 54, 3) := by decide +kernel
theorem dX11_choose_81 : decode cX11_choose 81 = .ok (.iload 5, 2) := by decide +kernel
theorem dX11_choose_83 : decode cX11_choose 83 = .ok (.iload_n 2, 1) := by decide +kernel
theorem dX11_choose_84 : decode cX11_choose 84 = .ok (.iload 5, 2) := by decide +kernel
theorem dX11_choose_86 : decode cX11_choose 86 = .ok (.iadd, 1) := by decide +kernel
theorem dX11_choose_87 : decode cX11_choose 87 = .ok (.iastore, 1) := by decide +kernel
theorem dX11_choose_88 : decode cX11_choose 88 = .ok (.iinc 5 1, 3) := by decide +kernel
theorem dX11_choose_91 : decode cX11_choose 91 = .ok (.goto (-20), 3) := by decide +kernel
theorem dX11_choose_94 : decode cX11_choose 94 = .ok (.iconst 0, 1) := by decide +kernel
theorem dX11_choose_95 : decode cX11_choose 95 = .ok (.istore 5, 2) := by decide +kernel
theorem dX11_choose_97 : decode cX11_choose 97 = .ok (.iconst (-1), 1) := by decide +kernel
theorem dX11_choose_98 : decode cX11_choose 98 = .ok (.istore 6, 2) := by decide +kernel
theorem dX11_choose_100 : decode cX11_choose 100 = .ok (.iload_n 2, 1) := by decide +kernel
theorem dX11_choose_101 : decode cX11_choose 101 = .ok (.iload_n 1, 1) := by decide +kernel
theorem dX11_choose_102 : decode cX11_choose 102 = .ok (.iadd, 1) := by decide +kernel
theorem dX11_choose_103 : decode cX11_choose 103 = .ok (.iconst 1, 1) := by decide +kernel
theorem dX11_choose_104 : decode cX11_choose 104 = .ok (.isub, 1) := by decide +kernel
theorem dX11_choose_105 : decode cX11_choose 105 = .ok (.iload_n 3, 1) := by decide +kernel
theorem dX11_choose_106 : decode cX11_choose 106 = .ok (.if_icmp .gt 7, 3) := by decide +kernel
theorem dX11_choose_109 : decode cX11_choose 109 = .ok (.iconst 1, 1) := by decide +kernel
theorem dX11_choose_110 : decode cX11_choose 110 = .ok (.goto 4, 3) := by decide +kernel
theorem dX11_choose_113 : decode cX11_choose 113 = .ok (.iconst 0, 1) := by decide +kernel
theorem dX11_choose_114 : decode cX11_choose 114 = .ok (.istore 7, 2) := by decide +kernel
theorem dX11_choose_116 : decode cX11_choose 116 = .ok (.iload 7, 2) := by decide +kernel
theorem dX11_choose_118 : decode cX11_choose 118 = .ok (.ifCond .eq 101, 3) := by decide +kernel
theorem dX11_choose_121 : decode cX11_choose 121 = .ok (.aload_n 0, 1) := by decide +kernel
theorem dX11_choose_122 : decode cX11_choose 122 = .ok (.iload_n 1, 1) := by decide +kernel
theorem dX11_choose_123 : decode cX11_choose 123 = .ok (.invokevirtual 321, 3) := by decide +kernel
theorem dX11_choose_126 : decode cX11_choose 126 = .ok (.ifCond .eq 82, 3) := by decide +kernel
theorem dX11_choose_129 : decode cX11_choose 129 = .ok (.iconst 0, 1) := by decide +kernel
theorem dX11_choose_130 : decode cX11_choose 130 = .ok (.istore 8, 2) := by decide +kernel
theorem dX11_choose_132 : decode cX11_choose 132 = .ok (.iconst 0, 1) := by decide +kernel
theorem dX11_choose_133 : decode cX11_choose 133 = .ok (.istore 9, 2) := by decide +kernel
theorem dX11_choose_135 : decode cX11_choose 135 = .ok (.iload 9, 2) := by decide +kernel
theorem dX11_choose_137 : decode cX11_choose 137 = .ok (.iload_n 1, 1) := by decide +kernel
theorem dX11_choose_138 : decode cX11_choose 138 = .ok (.if_icmp .ge 21, 3) := by decide +kernel
theorem dX11_choose_141 : decode cX11_choose 141 = .ok (.iload 8, 2) := by decide +kernel
theorem dX11_choose_143 : decode cX11_choose 143 = .ok (.aload_n 0, 1) := by decide +kernel
theorem dX11_choose_144 : decode cX11_choose 144 = .ok (.getfield 54, 3) := by decide +kernel
theorem dX11_choose_147 : decode cX11_choose 147 = .ok (.iload 9, 2) := by decide +kernel
theorem dX11_choose_149 : decode cX11_choose 149 = .ok (.iaload, 1) := by decide +kernel
theorem dX11_choose_150 : decode cX11_choose 150 = .ok (.iadd, 1) := by decide +kernel
theorem dX11_choose_151 : decode cX11_choose 151 = .ok (.istore 8, 2) := by decide +kernel
theorem dX11_choose_153 : decode cX11_choose 153 = .ok (.iinc 9 1, 3) := by decide +kernel
theorem dX11_choose_156 : decode cX11_choose 156 = .ok (.goto (-21), 3) := by decide +kernel
theorem dX11_choose_159 : decode cX11_choose 159 = .ok (.iinc 5 1, 3) := by decide +kernel
theorem dX11_choose_162 : decode cX11_choose 162 = .ok (.iload 6, 2) := by decide +kernel
theorem dX11_choose_164 : decode cX11_choose 164 = .ok (.iconst (-1), 1) := by decide +kernel
theorem dX11_choose_165 : decode cX11_choose 165 = .ok (.if_icmp .eq 10, 3) := by decide +kernel
theorem dX11_choose_168 : decode cX11_choose 168 = .ok (.iload 8, 2) := by decide +kernel
theorem dX11_choose_170 : decode cX11_choose 170 = .ok (.iload 6, 2) := by decide +kernel
theorem dX11_choose_172 : decode cX11_choose 172 = .ok (.if_icmp .ge 36, 3) := by decide +kernel
theorem dX11_choose_175 : decode cX11_choose 175 = .ok (.iload 8, 2) := by decide +kernel
theorem dX11_choose_177 : decode cX11_choose 177 = .ok (.istore 6, 2) := by decide +kernel
theorem dX11_choose_179 : decode cX11_choose 179 = .ok (.iconst 0, 1) := by decide +kernel
theorem dX11_choose_180 : decode cX11_choose 180 = .ok (.istore 9, 2) := by decide +kernel
theorem dX11_choose_182 : decode cX11_choose 182 = .ok (.iload 9, 2) := by decide +kernel
theorem dX11_choose_184 : decode cX11_choose 184 = .ok (.iload_n 1, 1) := by decide +kernel
theorem dX11_choose_185 : decode cX11_choose 185 = .ok (.if_icmp .ge 23, 3) := by decide +kernel
theorem dX11_choose_188 : decode cX11_choose 188 = .ok (.aload_n 0, 1) := by decide +kernel
theorem dX11_choose_189 : decode cX11_choose 189 = .ok (.getfield 57, 3) := by decide +kernel
theorem dX11_choose_192 : decode cX11_choose 192 = .ok (.iload 9, 2) := by decide +kernel
theorem dX11_choose_194 : decode cX11_choose 194 = .ok (.aload_n 0, 1) := by decide +kernel
theorem dX11_choose_195 : decode cX11_choose 195 = .ok (.getfield 54, 3) := by decide +kernel
theorem dX11_choose_198 : decode cX11_choose 198 = .ok (.iload 9, 2) := by decide +kernel
theorem dX11_choose_200 : decode cX11_choose 200 = .ok (.iaload, 1) := by decide +kernel
theorem dX11_choose_201 : decode cX11_choose 201 = .ok (.iastore, 1) := by decide +kernel
theorem dX11_choose_202 : decode cX11_choose 202 = .ok (.iinc 9 1, 3) := by decide +kernel
theorem dX11_choose_205 : decode cX11_choose 205 = .ok (.goto (-23), 3) := by decide +kernel
theorem dX11_choose_208 : decode cX11_choose 208 = .ok (.aload_n 0, 1) := by decide +kernel
theorem dX11_choose_209 : decode cX11_choose 209 = .ok (.iload_n 1, 1) := by decide +kernel
theorem dX11_choose_210 : decode cX11_choose 210 = .ok (.iload_n 3, 1) := by decide +kernel
theorem dX11_choose_211 : decode cX11_choose 211 = .ok (.invokevirtual 324, 3) := by decide +kernel
theorem dX11_choose_214 : decode cX11_choose 214 = .ok (.istore 7, 2) := by decide +kernel
theorem dX11_choose_216 : decode cX11_choose 216 = .ok (.goto (-100), 3) := by decide +kernel
theorem dX11_choose_219 : decode cX11_choose 219 = .ok (.iload 4, 2) := by decide +kernel
theorem dX11_choose_221 : decode cX11_choose 221 = .ok (.ifCond .ne 8, 3) := by decide +kernel
theorem dX11_choose_224 : decode cX11_choose 224 = .ok (.iload 5, 2) := by decide +kernel
theorem dX11_choose_226 : decode cX11_choose 226 = .ok (.goto 33, 3) := by decide +kernel
theorem dX11_choose_229 : decode cX11_choose 229 = .ok (.iload 5, 2) := by decide +kernel
theorem dX11_choose_231 : decode cX11_choose 231 = .ok (.ifCond .ne 7, 3) := by decide +kernel
theorem dX11_choose_234 : decode cX11_choose 234 = .ok (.iconst (-1), 1) := by decide +kernel
theorem dX11_choose_235 : decode cX11_choose 235 = .ok (.goto 24, 3) := by decide +kernel
theorem dX11_choose_238 : decode cX11_choose 238 = .ok (.iload 4, 2) := by decide +kernel
theorem dX11_choose_240 : decode cX11_choose 240 = .ok (.iconst 1, 1) := by decide +kernel
theorem dX11_choose_241 : decode cX11_choose 241 = .ok (.if_icmp .ne 8, 3) := by decide +kernel
theorem dX11_choose_244 : decode cX11_choose 244 = .ok (.iload 6, 2) := by decide +kernel
theorem dX11_choose_246 : decode cX11_choose 246 = .ok (.goto 13, 3) := by decide +kernel
theorem dX11_choose_249 : decode cX11_choose 249 = .ok (.aload_n 0, 1) := by decide +kernel
theorem dX11_choose_250 : decode cX11_choose 250 = .ok (.getfield 57, 3) := by decide +kernel
theorem dX11_choose_253 : decode cX11_choose 253 = .ok (.iload 4, 2) := by decide +kernel
theorem dX11_choose_255 : decode cX11_choose 255 = .ok (.bipush 10, 2) := by decide +kernel
theorem dX11_choose_257 : decode cX11_choose 257 = .ok (.isub, 1) := by decide +kernel
theorem dX11_choose_258 : decode cX11_choose 258 = .ok (.iaload, 1) := by decide +kernel
theorem dX11_choose_259 : decode cX11_choose 259 = .ok (.ireturn, 1) := by decide +kernel
theorem dX11_copies_0 : decode cX11_copies 0 = .ok (.iconst 0, 1) := by decide +kernel
theorem dX11_copies_1 : decode cX11_copies 1 = .ok (.istore_n 3, 1) := by decide +kernel
theorem dX11_copies_2 : decode cX11_copies 2 = .ok (.iload_n 3, 1) := by decide +kernel
theorem dX11_copies_3 : decode cX11_copies 3 = .ok (.bipush 100, 2) := by decide +kernel
theorem dX11_copies_5 : decode cX11_copies 5 = .ok (.if_icmp .ge 31, 3) := by decide +kernel
theorem dX11_copies_8 : decode cX11_copies 8 = .ok (.aload_n 0, 1) := by decide +kernel
theorem dX11_copies_9 : decode cX11_copies 9 = .ok (.getfield 7, 3) := by decide +kernel
theorem dX11_copies_12 : decode cX11_copies 12 = .ok (.bipush 100, 2) := by decide +kernel
theorem dX11_copies_14 : decode cX11_copies 14 = .ok (.iload_n 2, 1) := by decide +kernel
theorem dX11_copies_15 : decode cX11_copies 15 = .ok (.imul, 1) := by decide +kernel
theorem dX11_copies_16 : decode cX11_copies 16 = .ok (.iload_n 3, 1) := by decide +kernel
theorem dX11_copies_17 : decode cX11_copies 17 = .ok (.iadd, 1) := by decide +kernel
theorem dX11_copies_18 : decode cX11_copies 18 = .ok (.aload_n 0, 1) := by decide +kernel
theorem dX11_copies_19 : decode cX11_copies 19 = .ok (.getfield 7, 3) := by decide +kernel
theorem dX11_copies_22 : decode cX11_copies 22 = .ok (.bipush 100, 2) := by decide +kernel
theorem dX11_copies_24 : decode cX11_copies 24 = .ok (.iload_n 1, 1) := by decide +kernel
theorem dX11_copies_25 : decode cX11_copies 25 = .ok (.imul, 1) := by decide +kernel
theorem dX11_copies_26 : decode cX11_copies 26 = .ok (.iload_n 3, 1) := by decide +kernel
theorem dX11_copies_27 : decode cX11_copies 27 = .ok (.iadd, 1) := by decide +kernel
theorem dX11_copies_28 : decode cX11_copies 28 = .ok (.iaload, 1) := by decide +kernel
theorem dX11_copies_29 : decode cX11_copies 29 = .ok (.iastore, 1) := by decide +kernel
theorem dX11_copies_30 : decode cX11_copies 30 = .ok (.iinc 3 1, 3) := by decide +kernel
theorem dX11_copies_33 : decode cX11_copies 33 = .ok (.goto (-31), 3) := by decide +kernel
theorem dX11_copies_36 : decode cX11_copies 36 = .ok (.return_, 1) := by decide +kernel
set_option maxRecDepth 20000 in
theorem ggX11_more_X11_copies : GoodIn wsX11_more wsX11_copies := goodIn_r _ [7, 2, 77, 78, 79, 80, 81, 82, 83, 84, 85, 86, 87, 88, 89, 90, 91, 92, 93, 94, 95, 96, 97, 98, 99, 100, 101, 102, 103, 104, 105, 106] (by decide +kernel) (by decide +kernel)
set_option maxRecDepth 20000 in
theorem gX11_more_X11_copies : GoodIn wsX11_more (wsV RX11 327 RX11 yX11_copies wsX11_copies) := goodIn_app (goodIn_of _ (by decide +kernel)) ggX11_more_X11_copies
set_option maxRecDepth 20000 in
theorem ggX11_more_X11_hasGap : GoodIn wsX11_more wsX11_hasGap := goodIn_r _ [10] (by decide +kernel) (by decide +kernel)
set_option maxRecDepth 20000 in
theorem gX11_more_X11_hasGap : GoodIn wsX11_more (va_wsS RX11 144 yX11_hasGap wsX11_hasGap) := goodIn_app (goodIn_of _ (by decide +kernel)) ggX11_more_X11_hasGap
set_option maxRecDepth 20000 in
theorem ggX11_more_X11_putsGap : GoodIn wsX11_more wsX11_putsGap := goodIn_r _ [13] (by decide +kernel) (by decide +kernel)
set_option maxRecDepth 20000 in
theorem gX11_more_X11_putsGap : GoodIn wsX11_more (va_wsS RX11 148 yX11_putsGap wsX11_putsGap) := goodIn_app (goodIn_of _ (by decide +kernel)) ggX11_more_X11_putsGap
set_option maxRecDepth 20000 in
theorem ggX11_more_X11_laysLoud : GoodIn wsX11_more wsX11_laysLoud := goodIn_r _ [17, 18, 2, 19, 20, 21, 6, 22, 23, 24, 25, 26, 27, 28, 29, 30, 31, 32, 33, 34, 35, 36, 37, 38, 39, 40, 41, 77, 78, 79, 80, 81, 82, 83, 84, 85, 86, 87, 88, 89, 90, 91, 92, 93, 94, 95, 96, 97, 98, 99, 100, 101, 102, 103, 104, 105, 106] (by decide +kernel) (by decide +kernel)
set_option maxRecDepth 20000 in
theorem gX11_more_X11_laysLoud : GoodIn wsX11_more (wsV RX11 245 RX11 yX11_laysLoud wsX11_laysLoud) := goodIn_app (goodIn_of _ (by decide +kernel)) ggX11_more_X11_laysLoud
set_option maxRecDepth 20000 in
theorem ggX11_more_X11_foundMany : GoodIn wsX11_more wsX11_foundMany := goodIn_r _ [45, 2, 46, 47, 48, 6, 49, 50, 51, 52, 53, 27, 28, 29, 30, 54, 55, 56, 57, 18, 58, 59, 60, 61, 62, 63, 64, 19, 20, 21, 22, 23, 24, 25, 26, 77, 78, 79, 80, 81, 82, 83, 84, 85, 86, 87, 88, 89, 90, 91, 92, 93, 94, 95, 96, 97, 98, 99, 100, 101, 102, 103, 104, 105, 106] (by decide +kernel) (by decide +kernel)
set_option maxRecDepth 20000 in
theorem gX11_more_X11_foundMany : GoodIn wsX11_more (wsV RX11 260 RX11 yX11_foundMany wsX11_foundMany) := goodIn_app (goodIn_of _ (by decide +kernel)) ggX11_more_X11_foundMany
set_option maxRecDepth 20000 in
theorem ggX11_more_X11_darkMany : GoodIn wsX11_more wsX11_darkMany := goodIn_r _ [68, 2, 69, 70, 71, 6, 72, 73, 74, 75, 76, 27, 28, 29, 30, 35, 36, 37, 38, 39, 40, 41, 58, 59, 60, 77, 78, 79, 80, 81, 82, 83, 84, 85, 86, 87, 88, 89, 90, 91, 92, 93, 94, 95, 96, 97, 98, 99, 100, 101, 102, 103, 104, 105, 106] (by decide +kernel) (by decide +kernel)
set_option maxRecDepth 20000 in
theorem gX11_more_X11_darkMany : GoodIn wsX11_more (wsV RX11 254 RX11 yX11_darkMany wsX11_darkMany) := goodIn_app (goodIn_of _ (by decide +kernel)) ggX11_more_X11_darkMany
theorem dX11_more_0 : decode cX11_more 0 = .ok (.aload_n 0, 1) := by decide +kernel
theorem dX11_more_1 : decode cX11_more 1 = .ok (.iconst 0, 1) := by decide +kernel
theorem dX11_more_2 : decode cX11_more 2 = .ok (.putfield 66, 3) := by decide +kernel
theorem dX11_more_5 : decode cX11_more 5 = .ok (.aload_n 0, 1) := by decide +kernel
theorem dX11_more_6 : decode cX11_more 6 = .ok (.getfield 7, 3) := by decide +kernel
theorem dX11_more_9 : decode cX11_more 9 = .ok (.iconst 0, 1) := by decide +kernel
theorem dX11_more_10 : decode cX11_more 10 = .ok (.iaload, 1) := by decide +kernel
theorem dX11_more_11 : decode cX11_more 11 = .ok (.iconst 5, 1) := by decide +kernel
theorem dX11_more_12 : decode cX11_more 12 = .ok (.if_icmp .ne 5, 3) := by decide +kernel
theorem dX11_more_15 : decode cX11_more 15 = .ok (.iconst (-1), 1) := by decide +kernel
theorem dX11_more_16 : decode cX11_more 16 = .ok (.ireturn, 1) := by decide +kernel
theorem dX11_more_17 : decode cX11_more 17 = .ok (.aload_n 0, 1) := by decide +kernel
theorem dX11_more_18 : decode cX11_more 18 = .ok (.iconst 0, 1) := by decide +kernel
theorem dX11_more_19 : decode cX11_more 19 = .ok (.iconst 4, 1) := by decide +kernel
theorem dX11_more_20 : decode cX11_more 20 = .ok (.invokevirtual 327, 3) := by decide +kernel
theorem dX11_more_23 : decode cX11_more 23 = .ok (.iconst (-1), 1) := by decide +kernel
theorem dX11_more_24 : decode cX11_more 24 = .ok (.istore_n 2, 1) := by decide +kernel
theorem dX11_more_25 : decode cX11_more 25 = .ok (.iconst 0, 1) := by decide +kernel
theorem dX11_more_26 : decode cX11_more 26 = .ok (.istore_n 3, 1) := by decide +kernel
theorem dX11_more_27 : decode cX11_more 27 = .ok (.iconst 4, 1) := by decide +kernel
theorem dX11_more_28 : decode cX11_more 28 = .ok (.istore 4, 2) := by decide +kernel
theorem dX11_more_30 : decode cX11_more 30 = .ok (.iload 4, 2) := by decide +kernel
theorem dX11_more_32 : decode cX11_more 32 = .ok (.bipush 60, 2) := by decide +kernel
theorem dX11_more_34 : decode cX11_more 34 = .ok (.if_icmp .gt 78, 3) := by decide +kernel
theorem dX11_more_37 : decode cX11_more 37 = .ok (.aload_n 0, 1) := by decide +kernel
theorem dX11_more_38 : decode cX11_more 38 = .ok (.getfield 7, 3) := by decide +kernel
theorem dX11_more_41 : decode cX11_more 41 = .ok (.iload 4, 2) := by decide +kernel
theorem dX11_more_43 : decode cX11_more 43 = .ok (.invokestatic 144, 3) := by decide +kernel
theorem dX11_more_46 : decode cX11_more 46 = .ok (.ifCond .eq 6, 3) := by decide +kernel
theorem dX11_more_49 : decode cX11_more 49 = .ok (.goto 57, 3) := by decide +kernel
theorem dX11_more_52 : decode cX11_more 52 = .ok (.aload_n 0, 1) := by decide +kernel
theorem dX11_more_53 : decode cX11_more 53 = .ok (.getfield 7, 3) := by decide +kernel
theorem dX11_more_56 : decode cX11_more 56 = .ok (.iload 4, 2) := by decide +kernel
theorem dX11_more_58 : decode cX11_more 58 = .ok (.invokestatic 148, 3) := by decide +kernel
theorem dX11_more_61 : decode cX11_more 61 = .ok (.aload_n 0, 1) := by decide +kernel
theorem dX11_more_62 : decode cX11_more 62 = .ok (.invokevirtual 245, 3) := by decide +kernel
theorem dX11_more_65 : decode cX11_more 65 = .ok (.iload_n 1, 1) := by decide +kernel
theorem dX11_more_66 : decode cX11_more 66 = .ok (.ifCond .eq 11, 3) := by decide +kernel
theorem dX11_more_69 : decode cX11_more 69 = .ok (.aload_n 0, 1) := by decide +kernel
theorem dX11_more_70 : decode cX11_more 70 = .ok (.iconst 1, 1) := by decide +kernel
theorem dX11_more_71 : decode cX11_more 71 = .ok (.invokevirtual 260, 3) := by decide +kernel
theorem dX11_more_74 : decode cX11_more 74 = .ok (.goto 7, 3) := by decide +kernel
theorem dX11_more_77 : decode cX11_more 77 = .ok (.aload_n 0, 1) := by decide +kernel
theorem dX11_more_78 : decode cX11_more 78 = .ok (.invokevirtual 254, 3) := by decide +kernel
theorem dX11_more_81 : decode cX11_more 81 = .ok (.istore 5, 2) := by decide +kernel
theorem dX11_more_83 : decode cX11_more 83 = .ok (.iload_n 2, 1) := by decide +kernel
theorem dX11_more_84 : decode cX11_more 84 = .ok (.iconst (-1), 1) := by decide +kernel
theorem dX11_more_85 : decode cX11_more 85 = .ok (.if_icmp .eq 9, 3) := by decide +kernel
theorem dX11_more_88 : decode cX11_more 88 = .ok (.iload 5, 2) := by decide +kernel
theorem dX11_more_90 : decode cX11_more 90 = .ok (.iload_n 3, 1) := by decide +kernel
theorem dX11_more_91 : decode cX11_more 91 = .ok (.if_icmp .ge 9, 3) := by decide +kernel
theorem dX11_more_94 : decode cX11_more 94 = .ok (.iload 4, 2) := by decide +kernel
theorem dX11_more_96 : decode cX11_more 96 = .ok (.istore_n 2, 1) := by decide +kernel
theorem dX11_more_97 : decode cX11_more 97 = .ok (.iload 5, 2) := by decide +kernel
theorem dX11_more_99 : decode cX11_more 99 = .ok (.istore_n 3, 1) := by decide +kernel
theorem dX11_more_100 : decode cX11_more 100 = .ok (.aload_n 0, 1) := by decide +kernel
theorem dX11_more_101 : decode cX11_more 101 = .ok (.iconst 4, 1) := by decide +kernel
theorem dX11_more_102 : decode cX11_more 102 = .ok (.iconst 0, 1) := by decide +kernel
theorem dX11_more_103 : decode cX11_more 103 = .ok (.invokevirtual 327, 3) := by decide +kernel
theorem dX11_more_106 : decode cX11_more 106 = .ok (.iinc 4 1, 3) := by decide +kernel
theorem dX11_more_109 : decode cX11_more 109 = .ok (.goto (-79), 3) := by decide +kernel
theorem dX11_more_112 : decode cX11_more 112 = .ok (.iload_n 2, 1) := by decide +kernel
theorem dX11_more_113 : decode cX11_more 113 = .ok (.ireturn, 1) := by decide +kernel
set_option maxRecDepth 20000 in
theorem ggX11_shaken_X11_in : GoodIn wsX11_shaken wsX11_in := goodIn_r _ [6] (by decide +kernel) (by decide +kernel)
set_option maxRecDepth 20000 in
theorem gX11_shaken_X11_in : GoodIn wsX11_shaken (va_wsS RX11 70 yX11_in wsX11_in) := goodIn_app (goodIn_of _ (by decide +kernel)) ggX11_shaken_X11_in
set_option maxRecDepth 20000 in
theorem ggX11_shaken_X11_gapAt : GoodIn wsX11_shaken wsX11_gapAt := goodIn_r _ [10, 2, 18, 19, 20, 21, 22, 23, 24, 25, 26, 27, 28, 29, 30, 31, 32, 33, 34, 35, 36, 37, 38, 39, 40, 41, 42, 43, 44, 45, 46, 47] (by decide +kernel) (by decide +kernel)
set_option maxRecDepth 20000 in
theorem gX11_shaken_X11_gapAt : GoodIn wsX11_shaken (wsV RX11 185 RX11 yX11_gapAt wsX11_gapAt) := goodIn_app (goodIn_of _ (by decide +kernel)) ggX11_shaken_X11_gapAt
set_option maxRecDepth 20000 in
theorem ggX11_shaken_X11_isBlind : GoodIn wsX11_shaken wsX11_isBlind := goodIn_r _ [14, 2, 15, 16, 5, 17, 18, 19, 20, 21, 22, 23, 24, 25, 26, 27, 28, 29, 30, 31, 32, 33, 34, 35, 36, 37, 38, 39, 40, 41, 42, 43, 44, 45, 46, 47] (by decide +kernel) (by decide +kernel)
set_option maxRecDepth 20000 in
theorem gX11_shaken_X11_isBlind : GoodIn wsX11_shaken (wsV RX11 215 RX11 yX11_isBlind wsX11_isBlind) := goodIn_app (goodIn_of _ (by decide +kernel)) ggX11_shaken_X11_isBlind
theorem dX11_shaken_0 : decode cX11_shaken 0 = .ok (.aload_n 0, 1) := by decide +kernel
theorem dX11_shaken_1 : decode cX11_shaken 1 = .ok (.iconst 0, 1) := by decide +kernel
theorem dX11_shaken_2 : decode cX11_shaken 2 = .ok (.putfield 66, 3) := by decide +kernel
theorem dX11_shaken_5 : decode cX11_shaken 5 = .ok (.iload_n 1, 1) := by decide +kernel
theorem dX11_shaken_6 : decode cX11_shaken 6 = .ok (.iconst 0, 1) := by decide +kernel
theorem dX11_shaken_7 : decode cX11_shaken 7 = .ok (.iconst 3, 1) := by decide +kernel
theorem dX11_shaken_8 : decode cX11_shaken 8 = .ok (.invokestatic 70, 3) := by decide +kernel
theorem dX11_shaken_11 : decode cX11_shaken 11 = .ok (.ifCond .ne 5, 3) := by decide +kernel
theorem dX11_shaken_14 : decode cX11_shaken 14 = .ok (.iconst (-1), 1) := by decide +kernel
theorem dX11_shaken_15 : decode cX11_shaken 15 = .ok (.ireturn, 1) := by decide +kernel
theorem dX11_shaken_16 : decode cX11_shaken 16 = .ok (.iconst 0, 1) := by decide +kernel
theorem dX11_shaken_17 : decode cX11_shaken 17 = .ok (.istore_n 3, 1) := by decide +kernel
theorem dX11_shaken_18 : decode cX11_shaken 18 = .ok (.iconst 1, 1) := by decide +kernel
theorem dX11_shaken_19 : decode cX11_shaken 19 = .ok (.istore 4, 2) := by decide +kernel
theorem dX11_shaken_21 : decode cX11_shaken 21 = .ok (.iload 4, 2) := by decide +kernel
theorem dX11_shaken_23 : decode cX11_shaken 23 = .ok (.aload_n 0, 1) := by decide +kernel
theorem dX11_shaken_24 : decode cX11_shaken 24 = .ok (.getfield 7, 3) := by decide +kernel
theorem dX11_shaken_27 : decode cX11_shaken 27 = .ok (.bipush 11, 2) := by decide +kernel
theorem dX11_shaken_29 : decode cX11_shaken 29 = .ok (.iaload, 1) := by decide +kernel
theorem dX11_shaken_30 : decode cX11_shaken 30 = .ok (.if_icmp .gt 131, 3) := by decide +kernel
theorem dX11_shaken_33 : decode cX11_shaken 33 = .ok (.iconst 0, 1) := by decide +kernel
theorem dX11_shaken_34 : decode cX11_shaken 34 = .ok (.istore 5, 2) := by decide +kernel
theorem dX11_shaken_36 : decode cX11_shaken 36 = .ok (.iconst 0, 1) := by decide +kernel
theorem dX11_shaken_37 : decode cX11_shaken 37 = .ok (.istore 6, 2) := by decide +kernel
theorem dX11_shaken_39 : decode cX11_shaken 39 = .ok (.iload 6, 2) := by decide +kernel
theorem dX11_shaken_41 : decode cX11_shaken 41 = .ok (.aload_n 0, 1) := by decide +kernel
theorem dX11_shaken_42 : decode cX11_shaken 42 = .ok (.getfield 7, 3) := by decide +kernel
theorem dX11_shaken_45 : decode cX11_shaken 45 = .ok (.iconst 0, 1) := by decide +kernel
theorem dX11_shaken_46 : decode cX11_shaken 46 = .ok (.iaload, 1) := by decide +kernel
theorem dX11_shaken_47 : decode cX11_shaken 47 = .ok (.if_icmp .ge 88, 3) := by decide +kernel
theorem dX11_shaken_50 : decode cX11_shaken 50 = .ok (.iconst 0, 1) := by decide +kernel
theorem dX11_shaken_51 : decode cX11_shaken 51 = .ok (.istore 7, 2) := by decide +kernel
theorem dX11_shaken_53 : decode cX11_shaken 53 = .ok (.iload_n 1, 1) := by decide +kernel
theorem dX11_shaken_54 : decode cX11_shaken 54 = .ok (.ineg, 1) := by decide +kernel
theorem dX11_shaken_55 : decode cX11_shaken 55 = .ok (.istore 8, 2) := by decide +kernel
theorem dX11_shaken_57 : decode cX11_shaken 57 = .ok (.iload 8, 2) := by decide +kernel
theorem dX11_shaken_59 : decode cX11_shaken 59 = .ok (.iload_n 1, 1) := by decide +kernel
theorem dX11_shaken_60 : decode cX11_shaken 60 = .ok (.if_icmp .gt 37, 3) := by decide +kernel
theorem dX11_shaken_63 : decode cX11_shaken 63 = .ok (.iload 7, 2) := by decide +kernel
theorem dX11_shaken_65 : decode cX11_shaken 65 = .ok (.aload_n 0, 1) := by decide +kernel
theorem dX11_shaken_66 : decode cX11_shaken 66 = .ok (.iload 4, 2) := by decide +kernel
theorem dX11_shaken_68 : decode cX11_shaken 68 = .ok (.aload_n 0, 1) := by decide +kernel
theorem dX11_shaken_69 : decode cX11_shaken 69 = .ok (.iload 6, 2) := by decide +kernel
theorem dX11_shaken_71 : decode cX11_shaken 71 = .ok (.invokevirtual 185, 3) := by decide +kernel
theorem dX11_shaken_74 : decode cX11_shaken 74 = .ok (.iload 8, 2) := by decide +kernel
theorem dX11_shaken_76 : decode cX11_shaken 76 = .ok (.iadd, 1) := by decide +kernel
theorem dX11_shaken_77 : decode cX11_shaken 77 = .ok (.invokevirtual 215, 3) := by decide +kernel
theorem dX11_shaken_80 : decode cX11_shaken 80 = .ok (.ifCond .eq 7, 3) := by decide +kernel
theorem dX11_shaken_83 : decode cX11_shaken 83 = .ok (.iconst 0, 1) := by decide +kernel
theorem dX11_shaken_84 : decode cX11_shaken 84 = .ok (.goto 4, 3) := by decide +kernel
theorem dX11_shaken_87 : decode cX11_shaken 87 = .ok (.iconst 1, 1) := by decide +kernel
theorem dX11_shaken_88 : decode cX11_shaken 88 = .ok (.iadd, 1) := by decide +kernel
theorem dX11_shaken_89 : decode cX11_shaken 89 = .ok (.istore 7, 2) := by decide +kernel
theorem dX11_shaken_91 : decode cX11_shaken 91 = .ok (.iinc 8 1, 3) := by decide +kernel
theorem dX11_shaken_94 : decode cX11_shaken 94 = .ok (.goto (-37), 3) := by decide +kernel
theorem dX11_shaken_97 : decode cX11_shaken 97 = .ok (.iload 5, 2) := by decide +kernel
theorem dX11_shaken_99 : decode cX11_shaken 99 = .ok (.iload_n 2, 1) := by decide +kernel
theorem dX11_shaken_100 : decode cX11_shaken 100 = .ok (.ifCond .eq 11, 3) := by decide +kernel
theorem dX11_shaken_103 : decode cX11_shaken 103 = .ok (.iload 7, 2) := by decide +kernel
theorem dX11_shaken_105 : decode cX11_shaken 105 = .ok (.ifCond .le 20, 3) := by decide +kernel
theorem dX11_shaken_108 : decode cX11_shaken 108 = .ok (.goto 13, 3) := by decide +kernel
theorem dX11_shaken_111 : decode cX11_shaken 111 = .ok (.iload 7, 2) := by decide +kernel
theorem dX11_shaken_113 : decode cX11_shaken 113 = .ok (.iconst 2, 1) := by decide +kernel
theorem dX11_shaken_114 : decode cX11_shaken 114 = .ok (.iload_n 1, 1) := by decide +kernel
theorem dX11_shaken_115 : decode cX11_shaken 115 = .ok (.imul, 1) := by decide +kernel
theorem dX11_shaken_116 : decode cX11_shaken 116 = .ok (.iconst 1, 1) := by decide +kernel
theorem dX11_shaken_117 : decode cX11_shaken 117 = .ok (.iadd, 1) := by decide +kernel
theorem dX11_shaken_118 : decode cX11_shaken 118 = .ok (.if_icmp .ne 7, 3) := by decide +kernel
theorem dX11_shaken_121 : decode cX11_shaken 121 = .ok (.iconst 1, 1) := by decide +kernel
theorem dX11_shaken_122 : decode cX11_shaken 122 = .ok (.goto 4, 3) := by decide +kernel
theorem dX11_shaken_125 : decode cX11_shaken 125 = .ok (.iconst 0, 1) := by decide +kernel
theorem dX11_shaken_126 : decode cX11_shaken 126 = .ok (.iadd, 1) := by decide +kernel
theorem dX11_shaken_127 : decode cX11_shaken 127 = .ok (.istore 5, 2) := by decide +kernel
theorem dX11_shaken_129 : decode cX11_shaken 129 = .ok (.iinc 6 1, 3) := by decide +kernel
theorem dX11_shaken_132 : decode cX11_shaken 132 = .ok (.goto (-93), 3) := by decide +kernel
theorem dX11_shaken_135 : decode cX11_shaken 135 = .ok (.iload_n 3, 1) := by decide +kernel
theorem dX11_shaken_136 : decode cX11_shaken 136 = .ok (.iload 5, 2) := by decide +kernel
theorem dX11_shaken_138 : decode cX11_shaken 138 = .ok (.aload_n 0, 1) := by decide +kernel
theorem dX11_shaken_139 : decode cX11_shaken 139 = .ok (.getfield 7, 3) := by decide +kernel
theorem dX11_shaken_142 : decode cX11_shaken 142 = .ok (.bipush 10, 2) := by decide +kernel
theorem dX11_shaken_144 : decode cX11_shaken 144 = .ok (.iaload, 1) := by decide +kernel
theorem dX11_shaken_145 : decode cX11_shaken 145 = .ok (.if_icmp .lt 7, 3) := by decide +kernel
theorem dX11_shaken_148 : decode cX11_shaken 148 = .ok (.iconst 1, 1) := by decide +kernel
theorem dX11_shaken_149 : decode cX11_shaken 149 = .ok (.goto 4, 3) := by decide +kernel
theorem dX11_shaken_152 : decode cX11_shaken 152 = .ok (.iconst 0, 1) := by decide +kernel
theorem dX11_shaken_153 : decode cX11_shaken 153 = .ok (.iadd, 1) := by decide +kernel
theorem dX11_shaken_154 : decode cX11_shaken 154 = .ok (.istore_n 3, 1) := by decide +kernel
theorem dX11_shaken_155 : decode cX11_shaken 155 = .ok (.iinc 4 1, 3) := by decide +kernel
theorem dX11_shaken_158 : decode cX11_shaken 158 = .ok (.goto (-137), 3) := by decide +kernel
theorem dX11_shaken_161 : decode cX11_shaken 161 = .ok (.iload_n 3, 1) := by decide +kernel
theorem dX11_shaken_162 : decode cX11_shaken 162 = .ok (.ireturn, 1) := by decide +kernel
set_option maxRecDepth 20000 in
theorem ggX11_goesOnBy_X11_of : GoodIn wsX11_goesOnBy wsX11_of := goodIn_r _ [6, 7, 19, 20, 21, 22, 23, 24, 25, 26, 27, 28, 29, 30, 31, 32, 33, 34, 35, 36, 37, 38, 39, 40, 41, 42, 43, 44, 45, 46, 47, 48] (by decide +kernel) (by decide +kernel)
set_option maxRecDepth 20000 in
theorem gX11_goesOnBy_X11_of : GoodIn wsX11_goesOnBy (wsV RX11 74 RX11 yX11_of wsX11_of) := goodIn_app (goodIn_of _ (by decide +kernel)) ggX11_goesOnBy_X11_of
set_option maxRecDepth 20000 in
theorem ggX11_goesOnBy_X11_in : GoodIn wsX11_goesOnBy wsX11_in := goodIn_r _ [10] (by decide +kernel) (by decide +kernel)
set_option maxRecDepth 20000 in
theorem gX11_goesOnBy_X11_in : GoodIn wsX11_goesOnBy (va_wsS RX11 70 yX11_in wsX11_in) := goodIn_app (goodIn_of _ (by decide +kernel)) ggX11_goesOnBy_X11_in
set_option maxRecDepth 20000 in
theorem ggX11_goesOnBy_X11_moves : GoodIn wsX11_goesOnBy wsX11_moves := goodIn_r _ [14, 7, 1, 2, 3, 4, 5, 6, 8, 9, 10, 15, 16, 17, 18, 19, 20, 21, 22, 23, 24, 25, 26, 27, 28, 29, 30, 31, 32, 33, 34, 35, 36, 37, 38, 39, 40, 41, 42, 43, 44, 45, 46, 47, 48] (by decide +kernel) (by decide +kernel)
set_option maxRecDepth 20000 in
theorem gX11_goesOnBy_X11_moves : GoodIn wsX11_goesOnBy (wsV RX11 197 RX11 yX11_moves wsX11_moves) := goodIn_app (goodIn_of _ (by decide +kernel)) ggX11_goesOnBy_X11_moves
theorem dX11_goesOnBy_0 : decode cX11_goesOnBy 0 = .ok (.iload_n 1, 1) := by decide +kernel
theorem dX11_goesOnBy_1 : decode cX11_goesOnBy 1 = .ok (.istore_n 3, 1) := by decide +kernel
theorem dX11_goesOnBy_2 : decode cX11_goesOnBy 2 = .ok (.iconst 0, 1) := by decide +kernel
theorem dX11_goesOnBy_3 : decode cX11_goesOnBy 3 = .ok (.istore 4, 2) := by decide +kernel
theorem dX11_goesOnBy_5 : decode cX11_goesOnBy 5 = .ok (.iload 4, 2) := by decide +kernel
theorem dX11_goesOnBy_7 : decode cX11_goesOnBy 7 = .ok (.iload_n 1, 1) := by decide +kernel
theorem dX11_goesOnBy_8 : decode cX11_goesOnBy 8 = .ok (.if_icmp .ge 43, 3) := by decide +kernel
theorem dX11_goesOnBy_11 : decode cX11_goesOnBy 11 = .ok (.iload_n 3, 1) := by decide +kernel
theorem dX11_goesOnBy_12 : decode cX11_goesOnBy 12 = .ok (.aload_n 0, 1) := by decide +kernel
theorem dX11_goesOnBy_13 : decode cX11_goesOnBy 13 = .ok (.iload 4, 2) := by decide +kernel
theorem dX11_goesOnBy_15 : decode cX11_goesOnBy 15 = .ok (.iconst 0, 1) := by decide +kernel
theorem dX11_goesOnBy_16 : decode cX11_goesOnBy 16 = .ok (.invokevirtual 74, 3) := by decide +kernel
theorem dX11_goesOnBy_19 : decode cX11_goesOnBy 19 = .ok (.iload_n 2, 1) := by decide +kernel
theorem dX11_goesOnBy_20 : decode cX11_goesOnBy 20 = .ok (.aload_n 0, 1) := by decide +kernel
theorem dX11_goesOnBy_21 : decode cX11_goesOnBy 21 = .ok (.iload 4, 2) := by decide +kernel
theorem dX11_goesOnBy_23 : decode cX11_goesOnBy 23 = .ok (.iconst 1, 1) := by decide +kernel
theorem dX11_goesOnBy_24 : decode cX11_goesOnBy 24 = .ok (.invokevirtual 74, 3) := by decide +kernel
theorem dX11_goesOnBy_27 : decode cX11_goesOnBy 27 = .ok (.imul, 1) := by decide +kernel
theorem dX11_goesOnBy_28 : decode cX11_goesOnBy 28 = .ok (.iadd, 1) := by decide +kernel
theorem dX11_goesOnBy_29 : decode cX11_goesOnBy 29 = .ok (.iconst 0, 1) := by decide +kernel
theorem dX11_goesOnBy_30 : decode cX11_goesOnBy 30 = .ok (.ldc 195, 2) := by decide +kernel
theorem dX11_goesOnBy_32 : decode cX11_goesOnBy 32 = .ok (.invokestatic 70, 3) := by decide +kernel
theorem dX11_goesOnBy_35 : decode cX11_goesOnBy 35 = .ok (.ifCond .eq 7, 3) := by decide +kernel
theorem dX11_goesOnBy_38 : decode cX11_goesOnBy 38 = .ok (.iconst 0, 1) := by decide +kernel
theorem dX11_goesOnBy_39 : decode cX11_goesOnBy 39 = .ok (.goto 4, 3) := by decide +kernel
theorem dX11_goesOnBy_42 : decode cX11_goesOnBy 42 = .ok (.iconst 1, 1) := by decide +kernel
theorem dX11_goesOnBy_43 : decode cX11_goesOnBy 43 = .ok (.isub, 1) := by decide +kernel
theorem dX11_goesOnBy_44 : decode cX11_goesOnBy 44 = .ok (.istore_n 3, 1) := by decide +kernel
theorem dX11_goesOnBy_45 : decode cX11_goesOnBy 45 = .ok (.iinc 4 1, 3) := by decide +kernel
theorem dX11_goesOnBy_48 : decode cX11_goesOnBy 48 = .ok (.goto (-43), 3) := by decide +kernel
theorem dX11_goesOnBy_51 : decode cX11_goesOnBy 51 = .ok (.aload_n 0, 1) := by decide +kernel
theorem dX11_goesOnBy_52 : decode cX11_goesOnBy 52 = .ok (.iload_n 1, 1) := by decide +kernel
theorem dX11_goesOnBy_53 : decode cX11_goesOnBy 53 = .ok (.iconst 0, 1) := by decide +kernel
theorem dX11_goesOnBy_54 : decode cX11_goesOnBy 54 = .ok (.invokevirtual 74, 3) := by decide +kernel
theorem dX11_goesOnBy_57 : decode cX11_goesOnBy 57 = .ok (.iload_n 2, 1) := by decide +kernel
theorem dX11_goesOnBy_58 : decode cX11_goesOnBy 58 = .ok (.aload_n 0, 1) := by decide +kernel
theorem dX11_goesOnBy_59 : decode cX11_goesOnBy 59 = .ok (.iload_n 1, 1) := by decide +kernel
theorem dX11_goesOnBy_60 : decode cX11_goesOnBy 60 = .ok (.iconst 1, 1) := by decide +kernel
theorem dX11_goesOnBy_61 : decode cX11_goesOnBy 61 = .ok (.invokevirtual 74, 3) := by decide +kernel
theorem dX11_goesOnBy_64 : decode cX11_goesOnBy 64 = .ok (.imul, 1) := by decide +kernel
theorem dX11_goesOnBy_65 : decode cX11_goesOnBy 65 = .ok (.iadd, 1) := by decide +kernel
theorem dX11_goesOnBy_66 : decode cX11_goesOnBy 66 = .ok (.iconst 0, 1) := by decide +kernel
theorem dX11_goesOnBy_67 : decode cX11_goesOnBy 67 = .ok (.ldc 195, 2) := by decide +kernel
theorem dX11_goesOnBy_69 : decode cX11_goesOnBy 69 = .ok (.invokestatic 70, 3) := by decide +kernel
theorem dX11_goesOnBy_72 : decode cX11_goesOnBy 72 = .ok (.istore 4, 2) := by decide +kernel
theorem dX11_goesOnBy_74 : decode cX11_goesOnBy 74 = .ok (.aload_n 0, 1) := by decide +kernel
theorem dX11_goesOnBy_75 : decode cX11_goesOnBy 75 = .ok (.iload_n 2, 1) := by decide +kernel
theorem dX11_goesOnBy_76 : decode cX11_goesOnBy 76 = .ok (.invokevirtual 197, 3) := by decide +kernel
theorem dX11_goesOnBy_79 : decode cX11_goesOnBy 79 = .ok (.istore 5, 2) := by decide +kernel
theorem dX11_goesOnBy_81 : decode cX11_goesOnBy 81 = .ok (.iload 4, 2) := by decide +kernel
theorem dX11_goesOnBy_83 : decode cX11_goesOnBy 83 = .ok (.ifCond .eq 7, 3) := by decide +kernel
theorem dX11_goesOnBy_86 : decode cX11_goesOnBy 86 = .ok (.iload_n 3, 1) := by decide +kernel
theorem dX11_goesOnBy_87 : decode cX11_goesOnBy 87 = .ok (.goto 4, 3) := by decide +kernel
theorem dX11_goesOnBy_90 : decode cX11_goesOnBy 90 = .ok (.iconst (-1), 1) := by decide +kernel
theorem dX11_goesOnBy_91 : decode cX11_goesOnBy 91 = .ok (.ireturn, 1) := by decide +kernel
set_option maxRecDepth 20000 in
theorem ggX11_until_X11_isTarget : GoodIn wsX11_until wsX11_isTarget := goodIn_r _ [6, 7, 8, 9, 5, 10, 71, 72, 73, 74, 75, 76, 77, 78, 79, 80, 81, 82, 83, 84, 85, 86, 87, 88, 89, 90, 91, 92, 93, 94, 95, 96, 97, 98, 99, 100] (by decide +kernel) (by decide +kernel)
set_option maxRecDepth 20000 in
theorem gX11_until_X11_isTarget : GoodIn wsX11_until (wsV RX11 188 RX11 yX11_isTarget wsX11_isTarget) := goodIn_app (goodIn_of _ (by decide +kernel)) ggX11_until_X11_isTarget
set_option maxRecDepth 20000 in
theorem ggX11_until_X11_in : GoodIn wsX11_until wsX11_in := goodIn_r _ [10] (by decide +kernel) (by decide +kernel)
set_option maxRecDepth 20000 in
theorem gX11_until_X11_in : GoodIn wsX11_until (va_wsS RX11 70 yX11_in wsX11_in) := goodIn_app (goodIn_of _ (by decide +kernel)) ggX11_until_X11_in
set_option maxRecDepth 20000 in
theorem ggX11_until_X11_copies : GoodIn wsX11_until wsX11_copies := goodIn_r _ [14, 7, 71, 72, 73, 74, 75, 76, 77, 78, 79, 80, 81, 82, 83, 84, 85, 86, 87, 88, 89, 90, 91, 92, 93, 94, 95, 96, 97, 98, 99, 100] (by decide +kernel) (by decide +kernel)
set_option maxRecDepth 20000 in
theorem gX11_until_X11_copies : GoodIn wsX11_until (wsV RX11 327 RX11 yX11_copies wsX11_copies) := goodIn_app (goodIn_of _ (by decide +kernel)) ggX11_until_X11_copies
set_option maxRecDepth 20000 in
theorem ggX11_until_X11_goesOnBy : GoodIn wsX11_until wsX11_goesOnBy := goodIn_r _ [18, 19, 20, 21, 22, 5, 23, 7, 8, 9, 10, 24, 25, 26, 27, 28, 29, 30, 31, 71, 72, 73, 74, 75, 76, 77, 78, 79, 80, 81, 82, 83, 84, 85, 86, 87, 88, 89, 90, 91, 92, 93, 94, 95, 96, 97, 98, 99, 100] (by decide +kernel) (by decide +kernel)
set_option maxRecDepth 20000 in
theorem gX11_until_X11_goesOnBy : GoodIn wsX11_until (wsV RX11 330 RX11 yX11_goesOnBy wsX11_goesOnBy) := goodIn_app (goodIn_of _ (by decide +kernel)) ggX11_until_X11_goesOnBy
set_option maxRecDepth 20000 in
theorem ggX11_until_X11_laysLoud : GoodIn wsX11_until wsX11_laysLoud := goodIn_r _ [35, 36, 7, 37, 38, 39, 5, 40, 20, 21, 22, 23, 41, 42, 43, 44, 45, 46, 47, 48, 49, 50, 51, 52, 53, 54, 55, 71, 72, 73, 74, 75, 76, 77, 78, 79, 80, 81, 82, 83, 84, 85, 86, 87, 88, 89, 90, 91, 92, 93, 94, 95, 96, 97, 98, 99, 100] (by decide +kernel) (by decide +kernel)
set_option maxRecDepth 20000 in
theorem gX11_until_X11_laysLoud : GoodIn wsX11_until (wsV RX11 245 RX11 yX11_laysLoud wsX11_laysLoud) := goodIn_app (goodIn_of _ (by decide +kernel)) ggX11_until_X11_laysLoud
set_option maxRecDepth 20000 in
theorem ggX11_until_X11_rangeOf : GoodIn wsX11_until wsX11_rangeOf := goodIn_r _ [40, 20, 21, 22, 5, 23, 7, 71, 72, 73, 74, 75, 76, 77, 78, 79, 80, 81, 82, 83, 84, 85, 86, 87, 88, 89, 90, 91, 92, 93, 94, 95, 96, 97, 98, 99, 100] (by decide +kernel) (by decide +kernel)
set_option maxRecDepth 20000 in
theorem gX11_until_X11_rangeOf : GoodIn wsX11_until (wsV RX11 227 RX11 yX11_rangeOf wsX11_rangeOf) := goodIn_app (goodIn_of _ (by decide +kernel)) ggX11_until_X11_rangeOf
set_option maxRecDepth 20000 in
theorem ggX11_until_X11_isFound : GoodIn wsX11_until wsX11_isFound := goodIn_r _ [59, 7, 60, 61, 62, 5, 63, 41, 42, 43, 44, 64, 65, 66, 67, 36, 68, 69, 70, 71, 72, 73, 74, 75, 76, 77, 78, 79, 80, 81, 82, 83, 84, 85, 86, 87, 88, 89, 90, 91, 92, 93, 94, 95, 96, 97, 98, 99, 100] (by decide +kernel) (by decide +kernel)
set_option maxRecDepth 20000 in
theorem gX11_until_X11_isFound : GoodIn wsX11_until (wsV RX11 239 RX11 yX11_isFound wsX11_isFound) := goodIn_app (goodIn_of _ (by decide +kernel)) ggX11_until_X11_isFound
theorem dX11_until_0 : decode cX11_until 0 = .ok (.aload_n 0, 1) := by decide +kernel
theorem dX11_until_1 : decode cX11_until 1 = .ok (.iconst 0, 1) := by decide +kernel
theorem dX11_until_2 : decode cX11_until 2 = .ok (.putfield 66, 3) := by decide +kernel
theorem dX11_until_5 : decode cX11_until 5 = .ok (.aload_n 0, 1) := by decide +kernel
theorem dX11_until_6 : decode cX11_until 6 = .ok (.iload_n 1, 1) := by decide +kernel
theorem dX11_until_7 : decode cX11_until 7 = .ok (.invokevirtual 188, 3) := by decide +kernel
theorem dX11_until_10 : decode cX11_until 10 = .ok (.ifCond .eq 14, 3) := by decide +kernel
theorem dX11_until_13 : decode cX11_until 13 = .ok (.iload_n 2, 1) := by decide +kernel
theorem dX11_until_14 : decode cX11_until 14 = .ok (.iconst 0, 1) := by decide +kernel
theorem dX11_until_15 : decode cX11_until 15 = .ok (.sipush 200, 3) := by decide +kernel
theorem dX11_until_18 : decode cX11_until 18 = .ok (.invokestatic 70, 3) := by decide +kernel
theorem dX11_until_21 : decode cX11_until 21 = .ok (.ifCond .ne 5, 3) := by decide +kernel
theorem dX11_until_24 : decode cX11_until 24 = .ok (.iconst (-1), 1) := by decide +kernel
theorem dX11_until_25 : decode cX11_until 25 = .ok (.ireturn, 1) := by decide +kernel
theorem dX11_until_26 : decode cX11_until 26 = .ok (.aload_n 0, 1) := by decide +kernel
theorem dX11_until_27 : decode cX11_until 27 = .ok (.iconst 0, 1) := by decide +kernel
theorem dX11_until_28 : decode cX11_until 28 = .ok (.iconst 4, 1) := by decide +kernel
theorem dX11_until_29 : decode cX11_until 29 = .ok (.invokevirtual 327, 3) := by decide +kernel
theorem dX11_until_32 : decode cX11_until 32 = .ok (.iconst (-1), 1) := by decide +kernel
theorem dX11_until_33 : decode cX11_until 33 = .ok (.istore_n 3, 1) := by decide +kernel
theorem dX11_until_34 : decode cX11_until 34 = .ok (.iconst 0, 1) := by decide +kernel
theorem dX11_until_35 : decode cX11_until 35 = .ok (.istore 4, 2) := by decide +kernel
theorem dX11_until_37 : decode cX11_until 37 = .ok (.iload 4, 2) := by decide +kernel
theorem dX11_until_39 : decode cX11_until 39 = .ok (.iload_n 2, 1) := by decide +kernel
theorem dX11_until_40 : decode cX11_until 40 = .ok (.if_icmp .gt 59, 3) := by decide +kernel
theorem dX11_until_43 : decode cX11_until 43 = .ok (.iload_n 3, 1) := by decide +kernel
theorem dX11_until_44 : decode cX11_until 44 = .ok (.iconst (-1), 1) := by decide +kernel
theorem dX11_until_45 : decode cX11_until 45 = .ok (.if_icmp .ne 54, 3) := by decide +kernel
theorem dX11_until_48 : decode cX11_until 48 = .ok (.aload_n 0, 1) := by decide +kernel
theorem dX11_until_49 : decode cX11_until 49 = .ok (.iload_n 1, 1) := by decide +kernel
theorem dX11_until_50 : decode cX11_until 50 = .ok (.iload 4, 2) := by decide +kernel
theorem dX11_until_52 : decode cX11_until 52 = .ok (.invokevirtual 330, 3) := by decide +kernel
theorem dX11_until_55 : decode cX11_until 55 = .ok (.istore 5, 2) := by decide +kernel
theorem dX11_until_57 : decode cX11_until 57 = .ok (.aload_n 0, 1) := by decide +kernel
theorem dX11_until_58 : decode cX11_until 58 = .ok (.invokevirtual 245, 3) := by decide +kernel
theorem dX11_until_61 : decode cX11_until 61 = .ok (.iload 5, 2) := by decide +kernel
theorem dX11_until_63 : decode cX11_until 63 = .ok (.iconst (-1), 1) := by decide +kernel
theorem dX11_until_64 : decode cX11_until 64 = .ok (.if_icmp .eq 21, 3) := by decide +kernel
theorem dX11_until_67 : decode cX11_until 67 = .ok (.aload_n 0, 1) := by decide +kernel
theorem dX11_until_68 : decode cX11_until 68 = .ok (.aload_n 0, 1) := by decide +kernel
theorem dX11_until_69 : decode cX11_until 69 = .ok (.iload 5, 2) := by decide +kernel
theorem dX11_until_71 : decode cX11_until 71 = .ok (.invokevirtual 227, 3) := by decide +kernel
theorem dX11_until_74 : decode cX11_until 74 = .ok (.invokevirtual 239, 3) := by decide +kernel
theorem dX11_until_77 : decode cX11_until 77 = .ok (.ifCond .eq 8, 3) := by decide +kernel
theorem dX11_until_80 : decode cX11_until 80 = .ok (.iload 4, 2) := by decide +kernel
theorem dX11_until_82 : decode cX11_until 82 = .ok (.goto 4, 3) := by decide +kernel
theorem dX11_until_85 : decode cX11_until 85 = .ok (.iconst (-1), 1) := by decide +kernel
theorem dX11_until_86 : decode cX11_until 86 = .ok (.istore_n 3, 1) := by decide +kernel
theorem dX11_until_87 : decode cX11_until 87 = .ok (.aload_n 0, 1) := by decide +kernel
theorem dX11_until_88 : decode cX11_until 88 = .ok (.iconst 4, 1) := by decide +kernel
theorem dX11_until_89 : decode cX11_until 89 = .ok (.iconst 0, 1) := by decide +kernel
theorem dX11_until_90 : decode cX11_until 90 = .ok (.invokevirtual 327, 3) := by decide +kernel
theorem dX11_until_93 : decode cX11_until 93 = .ok (.iinc 4 1, 3) := by decide +kernel
theorem dX11_until_96 : decode cX11_until 96 = .ok (.goto (-59), 3) := by decide +kernel
theorem dX11_until_99 : decode cX11_until 99 = .ok (.iload_n 3, 1) := by decide +kernel
theorem dX11_until_100 : decode cX11_until 100 = .ok (.ireturn, 1) := by decide +kernel
set_option maxRecDepth 20000 in
theorem ggX11_copiesText_X11_copies : GoodIn wsX11_copiesText wsX11_copies := goodIn_r _ [6, 7, 8, 9, 10, 11, 12, 13, 14, 15, 16, 17, 18, 19, 20, 21, 22, 23, 24, 25, 26, 27, 28, 29, 30, 31, 32, 33, 34, 35, 36, 37] (by decide +kernel) (by decide +kernel)
set_option maxRecDepth 20000 in
theorem gX11_copiesText_X11_copies : GoodIn wsX11_copiesText (wsV RX11 327 RX11 yX11_copies wsX11_copies) := goodIn_app (goodIn_of _ (by decide +kernel)) ggX11_copiesText_X11_copies
theorem dX11_copiesText_0 : decode cX11_copiesText 0 = .ok (.aload_n 0, 1) := by decide +kernel
theorem dX11_copiesText_1 : decode cX11_copiesText 1 = .ok (.iload_n 1, 1) := by decide +kernel
theorem dX11_copiesText_2 : decode cX11_copiesText 2 = .ok (.iload_n 2, 1) := by decide +kernel
theorem dX11_copiesText_3 : decode cX11_copiesText 3 = .ok (.invokevirtual 327, 3) := by decide +kernel
theorem dX11_copiesText_6 : decode cX11_copiesText 6 = .ok (.iconst 0, 1) := by decide +kernel
theorem dX11_copiesText_7 : decode cX11_copiesText 7 = .ok (.istore_n 3, 1) := by decide +kernel
theorem dX11_copiesText_8 : decode cX11_copiesText 8 = .ok (.iload_n 3, 1) := by decide +kernel
theorem dX11_copiesText_9 : decode cX11_copiesText 9 = .ok (.sipush 400, 3) := by decide +kernel
theorem dX11_copiesText_12 : decode cX11_copiesText 12 = .ok (.if_icmp .ge 33, 3) := by decide +kernel
theorem dX11_copiesText_15 : decode cX11_copiesText 15 = .ok (.aload_n 0, 1) := by decide +kernel
theorem dX11_copiesText_16 : decode cX11_copiesText 16 = .ok (.getfield 13, 3) := by decide +kernel
theorem dX11_copiesText_19 : decode cX11_copiesText 19 = .ok (.sipush 400, 3) := by decide +kernel
theorem dX11_copiesText_22 : decode cX11_copiesText 22 = .ok (.iload_n 2, 1) := by decide +kernel
theorem dX11_copiesText_23 : decode cX11_copiesText 23 = .ok (.imul, 1) := by decide +kernel
theorem dX11_copiesText_24 : decode cX11_copiesText 24 = .ok (.iload_n 3, 1) := by decide +kernel
theorem dX11_copiesText_25 : decode cX11_copiesText 25 = .ok (.iadd, 1) := by decide +kernel
theorem dX11_copiesText_26 : decode cX11_copiesText 26 = .ok (.aload_n 0, 1) := by decide +kernel
theorem dX11_copiesText_27 : decode cX11_copiesText 27 = .ok (.getfield 13, 3) := by decide +kernel
theorem dX11_copiesText_30 : decode cX11_copiesText 30 = .ok (.sipush 400, 3) := by decide +kernel
theorem dX11_copiesText_33 : decode cX11_copiesText 33 = .ok (.iload_n 1, 1) := by decide +kernel
theorem dX11_copiesText_34 : decode cX11_copiesText 34 = .ok (.imul, 1) := by decide +kernel
theorem dX11_copiesText_35 : decode cX11_copiesText 35 = .ok (.iload_n 3, 1) := by decide +kernel
theorem dX11_copiesText_36 : decode cX11_copiesText 36 = .ok (.iadd, 1) := by decide +kernel
theorem dX11_copiesText_37 : decode cX11_copiesText 37 = .ok (.baload, 1) := by decide +kernel
theorem dX11_copiesText_38 : decode cX11_copiesText 38 = .ok (.bastore, 1) := by decide +kernel
theorem dX11_copiesText_39 : decode cX11_copiesText 39 = .ok (.iinc 3 1, 3) := by decide +kernel
theorem dX11_copiesText_42 : decode cX11_copiesText 42 = .ok (.goto (-34), 3) := by decide +kernel
theorem dX11_copiesText_45 : decode cX11_copiesText 45 = .ok (.return_, 1) := by decide +kernel
set_option maxRecDepth 20000 in
theorem ggX11_image_X11_in : GoodIn wsX11_image wsX11_in := goodIn_r _ [6] (by decide +kernel) (by decide +kernel)
set_option maxRecDepth 20000 in
theorem gX11_image_X11_in : GoodIn wsX11_image (va_wsS RX11 70 yX11_in wsX11_in) := goodIn_app (goodIn_of _ (by decide +kernel)) ggX11_image_X11_in
set_option maxRecDepth 20000 in
theorem ggX11_image_X11_copiesText : GoodIn wsX11_image wsX11_copiesText := goodIn_r _ [10, 11, 12, 13, 14, 5, 15, 16, 17, 18, 19, 20, 21, 22, 23, 24, 25, 26, 27, 28, 29, 30, 31, 32, 33, 34, 35, 36, 37, 38, 39, 40, 41, 42, 43, 44, 45, 46] (by decide +kernel) (by decide +kernel)
set_option maxRecDepth 20000 in
theorem gX11_image_X11_copiesText : GoodIn wsX11_image (wsV RX11 333 RX11 yX11_copiesText wsX11_copiesText) := goodIn_app (goodIn_of _ (by decide +kernel)) ggX11_image_X11_copiesText
theorem dX11_image_0 : decode cX11_image 0 = .ok (.aload_n 0, 1) := by decide +kernel
theorem dX11_image_1 : decode cX11_image 1 = .ok (.iconst 0, 1) := by decide +kernel
theorem dX11_image_2 : decode cX11_image 2 = .ok (.putfield 66, 3) := by decide +kernel
theorem dX11_image_5 : decode cX11_image 5 = .ok (.iload_n 1, 1) := by decide +kernel
theorem dX11_image_6 : decode cX11_image 6 = .ok (.iconst 0, 1) := by decide +kernel
theorem dX11_image_7 : decode cX11_image 7 = .ok (.iconst 2, 1) := by decide +kernel
theorem dX11_image_8 : decode cX11_image 8 = .ok (.invokestatic 70, 3) := by decide +kernel
theorem dX11_image_11 : decode cX11_image 11 = .ok (.ifCond .ne 5, 3) := by decide +kernel
theorem dX11_image_14 : decode cX11_image 14 = .ok (.iconst 0, 1) := by decide +kernel
theorem dX11_image_15 : decode cX11_image 15 = .ok (.ireturn, 1) := by decide +kernel
theorem dX11_image_16 : decode cX11_image 16 = .ok (.aload_n 0, 1) := by decide +kernel
theorem dX11_image_17 : decode cX11_image 17 = .ok (.iconst 0, 1) := by decide +kernel
theorem dX11_image_18 : decode cX11_image 18 = .ok (.iload_n 1, 1) := by decide +kernel
theorem dX11_image_19 : decode cX11_image 19 = .ok (.iconst 1, 1) := by decide +kernel
theorem dX11_image_20 : decode cX11_image 20 = .ok (.iadd, 1) := by decide +kernel
theorem dX11_image_21 : decode cX11_image 21 = .ok (.invokevirtual 333, 3) := by decide +kernel
theorem dX11_image_24 : decode cX11_image 24 = .ok (.aload_n 0, 1) := by decide +kernel
theorem dX11_image_25 : decode cX11_image 25 = .ok (.getfield 17, 3) := by decide +kernel
theorem dX11_image_28 : decode cX11_image 28 = .ok (.iload_n 1, 1) := by decide +kernel
theorem dX11_image_29 : decode cX11_image 29 = .ok (.iconst 1, 1) := by decide +kernel
theorem dX11_image_30 : decode cX11_image 30 = .ok (.bastore, 1) := by decide +kernel
theorem dX11_image_31 : decode cX11_image 31 = .ok (.iconst 1, 1) := by decide +kernel
theorem dX11_image_32 : decode cX11_image 32 = .ok (.ireturn, 1) := by decide +kernel
set_option maxRecDepth 20000 in
theorem ggX11_again_X11_in : GoodIn wsX11_again wsX11_in := goodIn_r _ [7] (by decide +kernel) (by decide +kernel)
set_option maxRecDepth 20000 in
theorem gX11_again_X11_in : GoodIn wsX11_again (va_wsS RX11 70 yX11_in wsX11_in) := goodIn_app (goodIn_of _ (by decide +kernel)) ggX11_again_X11_in
set_option maxRecDepth 20000 in
theorem ggX11_again_X11_copiesText : GoodIn wsX11_again wsX11_copiesText := goodIn_r _ [11, 12, 13, 14, 15, 6, 16, 17, 18, 19, 20, 21, 22, 23, 24, 25, 26, 27, 28, 29, 30, 31, 32, 33, 34, 35, 36, 37, 38, 39, 40, 41, 42, 43, 44, 45, 46, 47] (by decide +kernel) (by decide +kernel)
set_option maxRecDepth 20000 in
theorem gX11_again_X11_copiesText : GoodIn wsX11_again (wsV RX11 333 RX11 yX11_copiesText wsX11_copiesText) := goodIn_app (goodIn_of _ (by decide +kernel)) ggX11_again_X11_copiesText
theorem dX11_again_0 : decode cX11_again 0 = .ok (.aload_n 0, 1) := by decide +kernel
theorem dX11_again_1 : decode cX11_again 1 = .ok (.iconst 0, 1) := by decide +kernel
theorem dX11_again_2 : decode cX11_again 2 = .ok (.putfield 66, 3) := by decide +kernel
theorem dX11_again_5 : decode cX11_again 5 = .ok (.iload_n 1, 1) := by decide +kernel
theorem dX11_again_6 : decode cX11_again 6 = .ok (.iconst 0, 1) := by decide +kernel
theorem dX11_again_7 : decode cX11_again 7 = .ok (.iconst 2, 1) := by decide +kernel
theorem dX11_again_8 : decode cX11_again 8 = .ok (.invokestatic 70, 3) := by decide +kernel
theorem dX11_again_11 : decode cX11_again 11 = .ok (.ifCond .eq 12, 3) := by decide +kernel
theorem dX11_again_14 : decode cX11_again 14 = .ok (.aload_n 0, 1) := by decide +kernel
theorem dX11_again_15 : decode cX11_again 15 = .ok (.getfield 17, 3) := by decide +kernel
theorem dX11_again_18 : decode cX11_again 18 = .ok (.iload_n 1, 1) := by decide +kernel
theorem dX11_again_19 : decode cX11_again 19 = .ok (.baload, 1) := by decide +kernel
theorem dX11_again_20 : decode cX11_again 20 = .ok (.ifCond .ne 5, 3) := by decide +kernel
theorem dX11_again_23 : decode cX11_again 23 = .ok (.iconst 0, 1) := by decide +kernel
theorem dX11_again_24 : decode cX11_again 24 = .ok (.ireturn, 1) := by decide +kernel
theorem dX11_again_25 : decode cX11_again 25 = .ok (.aload_n 0, 1) := by decide +kernel
theorem dX11_again_26 : decode cX11_again 26 = .ok (.iload_n 1, 1) := by decide +kernel
theorem dX11_again_27 : decode cX11_again 27 = .ok (.iconst 1, 1) := by decide +kernel
theorem dX11_again_28 : decode cX11_again 28 = .ok (.iadd, 1) := by decide +kernel
theorem dX11_again_29 : decode cX11_again 29 = .ok (.iconst 0, 1) := by decide +kernel
theorem dX11_again_30 : decode cX11_again 30 = .ok (.invokevirtual 333, 3) := by decide +kernel
theorem dX11_again_33 : decode cX11_again 33 = .ok (.aload_n 0, 1) := by decide +kernel
theorem dX11_again_34 : decode cX11_again 34 = .ok (.iconst 0, 1) := by decide +kernel
theorem dX11_again_35 : decode cX11_again 35 = .ok (.putfield 176, 3) := by decide +kernel
theorem dX11_again_38 : decode cX11_again 38 = .ok (.iconst 1, 1) := by decide +kernel
theorem dX11_again_39 : decode cX11_again 39 = .ok (.ireturn, 1) := by decide +kernel
theorem dJ6_bitCount_0f7a4_0 : decode cJ6_bitCount_0f7a4 0 = .ok (.iload_n 0, 1) := by decide +kernel
theorem dJ6_bitCount_0f7a4_1 : decode cJ6_bitCount_0f7a4 1 = .ok (.iload_n 0, 1) := by decide +kernel
theorem dJ6_bitCount_0f7a4_2 : decode cJ6_bitCount_0f7a4 2 = .ok (.iconst 1, 1) := by decide +kernel
theorem dJ6_bitCount_0f7a4_3 : decode cJ6_bitCount_0f7a4 3 = .ok (.iushr, 1) := by decide +kernel
theorem dJ6_bitCount_0f7a4_4 : decode cJ6_bitCount_0f7a4 4 = .ok (.ldc_w 265, 3) := by decide +kernel
theorem dJ6_bitCount_0f7a4_7 : decode cJ6_bitCount_0f7a4 7 = .ok (.iand, 1) := by decide +kernel
theorem dJ6_bitCount_0f7a4_8 : decode cJ6_bitCount_0f7a4 8 = .ok (.isub, 1) := by decide +kernel
theorem dJ6_bitCount_0f7a4_9 : decode cJ6_bitCount_0f7a4 9 = .ok (.istore_n 0, 1) := by decide +kernel
theorem dJ6_bitCount_0f7a4_10 : decode cJ6_bitCount_0f7a4 10 = .ok (.iload_n 0, 1) := by decide +kernel
theorem dJ6_bitCount_0f7a4_11 : decode cJ6_bitCount_0f7a4 11 = .ok (.ldc_w 266, 3) := by decide +kernel
theorem dJ6_bitCount_0f7a4_14 : decode cJ6_bitCount_0f7a4 14 = .ok (.iand, 1) := by decide +kernel
theorem dJ6_bitCount_0f7a4_15 : decode cJ6_bitCount_0f7a4 15 = .ok (.iload_n 0, 1) := by decide +kernel
theorem dJ6_bitCount_0f7a4_16 : decode cJ6_bitCount_0f7a4 16 = .ok (.iconst 2, 1) := by decide +kernel
theorem dJ6_bitCount_0f7a4_17 : decode cJ6_bitCount_0f7a4 17 = .ok (.iushr, 1) := by decide +kernel
theorem dJ6_bitCount_0f7a4_18 : decode cJ6_bitCount_0f7a4 18 = .ok (.ldc_w 266, 3) := by decide +kernel
theorem dJ6_bitCount_0f7a4_21 : decode cJ6_bitCount_0f7a4 21 = .ok (.iand, 1) := by decide +kernel
theorem dJ6_bitCount_0f7a4_22 : decode cJ6_bitCount_0f7a4 22 = .ok (.iadd, 1) := by decide +kernel
theorem dJ6_bitCount_0f7a4_23 : decode cJ6_bitCount_0f7a4 23 = .ok (.istore_n 0, 1) := by decide +kernel
theorem dJ6_bitCount_0f7a4_24 : decode cJ6_bitCount_0f7a4 24 = .ok (.iload_n 0, 1) := by decide +kernel
theorem dJ6_bitCount_0f7a4_25 : decode cJ6_bitCount_0f7a4 25 = .ok (.iload_n 0, 1) := by decide +kernel
theorem dJ6_bitCount_0f7a4_26 : decode cJ6_bitCount_0f7a4 26 = .ok (.iconst 4, 1) := by decide +kernel
theorem dJ6_bitCount_0f7a4_27 : decode cJ6_bitCount_0f7a4 27 = .ok (.iushr, 1) := by decide +kernel
theorem dJ6_bitCount_0f7a4_28 : decode cJ6_bitCount_0f7a4 28 = .ok (.iadd, 1) := by decide +kernel
theorem dJ6_bitCount_0f7a4_29 : decode cJ6_bitCount_0f7a4 29 = .ok (.ldc_w 267, 3) := by decide +kernel
theorem dJ6_bitCount_0f7a4_32 : decode cJ6_bitCount_0f7a4 32 = .ok (.iand, 1) := by decide +kernel
theorem dJ6_bitCount_0f7a4_33 : decode cJ6_bitCount_0f7a4 33 = .ok (.istore_n 0, 1) := by decide +kernel
theorem dJ6_bitCount_0f7a4_34 : decode cJ6_bitCount_0f7a4 34 = .ok (.iload_n 0, 1) := by decide +kernel
theorem dJ6_bitCount_0f7a4_35 : decode cJ6_bitCount_0f7a4 35 = .ok (.iload_n 0, 1) := by decide +kernel
theorem dJ6_bitCount_0f7a4_36 : decode cJ6_bitCount_0f7a4 36 = .ok (.bipush 8, 2) := by decide +kernel
theorem dJ6_bitCount_0f7a4_38 : decode cJ6_bitCount_0f7a4 38 = .ok (.iushr, 1) := by decide +kernel
theorem dJ6_bitCount_0f7a4_39 : decode cJ6_bitCount_0f7a4 39 = .ok (.iadd, 1) := by decide +kernel
theorem dJ6_bitCount_0f7a4_40 : decode cJ6_bitCount_0f7a4 40 = .ok (.istore_n 0, 1) := by decide +kernel
theorem dJ6_bitCount_0f7a4_41 : decode cJ6_bitCount_0f7a4 41 = .ok (.iload_n 0, 1) := by decide +kernel
theorem dJ6_bitCount_0f7a4_42 : decode cJ6_bitCount_0f7a4 42 = .ok (.iload_n 0, 1) := by decide +kernel
theorem dJ6_bitCount_0f7a4_43 : decode cJ6_bitCount_0f7a4 43 = .ok (.bipush 16, 2) := by decide +kernel
theorem dJ6_bitCount_0f7a4_45 : decode cJ6_bitCount_0f7a4 45 = .ok (.iushr, 1) := by decide +kernel
theorem dJ6_bitCount_0f7a4_46 : decode cJ6_bitCount_0f7a4 46 = .ok (.iadd, 1) := by decide +kernel
theorem dJ6_bitCount_0f7a4_47 : decode cJ6_bitCount_0f7a4 47 = .ok (.istore_n 0, 1) := by decide +kernel
theorem dJ6_bitCount_0f7a4_48 : decode cJ6_bitCount_0f7a4 48 = .ok (.iload_n 0, 1) := by decide +kernel
theorem dJ6_bitCount_0f7a4_49 : decode cJ6_bitCount_0f7a4 49 = .ok (.bipush 63, 2) := by decide +kernel
theorem dJ6_bitCount_0f7a4_51 : decode cJ6_bitCount_0f7a4 51 = .ok (.iand, 1) := by decide +kernel
theorem dJ6_bitCount_0f7a4_52 : decode cJ6_bitCount_0f7a4 52 = .ok (.ireturn, 1) := by decide +kernel
theorem dJ9_max_7cf53_0 : decode cJ9_max_7cf53 0 = .ok (.iload_n 0, 1) := by decide +kernel
theorem dJ9_max_7cf53_1 : decode cJ9_max_7cf53 1 = .ok (.iload_n 1, 1) := by decide +kernel
theorem dJ9_max_7cf53_2 : decode cJ9_max_7cf53 2 = .ok (.if_icmp .lt 7, 3) := by decide +kernel
theorem dJ9_max_7cf53_5 : decode cJ9_max_7cf53 5 = .ok (.iload_n 0, 1) := by decide +kernel
theorem dJ9_max_7cf53_6 : decode cJ9_max_7cf53 6 = .ok (.goto 4, 3) := by decide +kernel
theorem dJ9_max_7cf53_9 : decode cJ9_max_7cf53 9 = .ok (.iload_n 1, 1) := by decide +kernel
theorem dJ9_max_7cf53_10 : decode cJ9_max_7cf53 10 = .ok (.ireturn, 1) := by decide +kernel
theorem dJ9_min_7cf53_0 : decode cJ9_min_7cf53 0 = .ok (.iload_n 0, 1) := by decide +kernel
theorem dJ9_min_7cf53_1 : decode cJ9_min_7cf53 1 = .ok (.iload_n 1, 1) := by decide +kernel
theorem dJ9_min_7cf53_2 : decode cJ9_min_7cf53 2 = .ok (.if_icmp .gt 7, 3) := by decide +kernel
theorem dJ9_min_7cf53_5 : decode cJ9_min_7cf53 5 = .ok (.iload_n 0, 1) := by decide +kernel
theorem dJ9_min_7cf53_6 : decode cJ9_min_7cf53 6 = .ok (.goto 4, 3) := by decide +kernel
theorem dJ9_min_7cf53_9 : decode cJ9_min_7cf53 9 = .ok (.iload_n 1, 1) := by decide +kernel
theorem dJ9_min_7cf53_10 : decode cJ9_min_7cf53 10 = .ok (.ireturn, 1) := by decide +kernel
set_option maxRecDepth 20000 in
theorem ggJ0_length_8abf5_J0_coder_7d493 : GoodIn wsJ0_length_8abf5 wsJ0_coder_7d493 := goodIn_r _ [6, 7, 8] (by decide +kernel) (by decide +kernel)
set_option maxRecDepth 20000 in
theorem gJ0_length_8abf5_J0_coder_7d493 : GoodIn wsJ0_length_8abf5 (wsV RJ0 335 RJ0 yJ0_coder_7d493 wsJ0_coder_7d493) := goodIn_app (goodIn_of _ (by decide +kernel)) ggJ0_length_8abf5_J0_coder_7d493
theorem dJ0_length_8abf5_0 : decode cJ0_length_8abf5 0 = .ok (.aload_n 0, 1) := by decide +kernel
theorem dJ0_length_8abf5_1 : decode cJ0_length_8abf5 1 = .ok (.getfield 9, 3) := by decide +kernel
theorem dJ0_length_8abf5_4 : decode cJ0_length_8abf5 4 = .ok (.arraylength, 1) := by decide +kernel
theorem dJ0_length_8abf5_5 : decode cJ0_length_8abf5 5 = .ok (.aload_n 0, 1) := by decide +kernel
theorem dJ0_length_8abf5_6 : decode cJ0_length_8abf5 6 = .ok (.invokevirtual 335, 3) := by decide +kernel
theorem dJ0_length_8abf5_9 : decode cJ0_length_8abf5 9 = .ok (.ishr, 1) := by decide +kernel
theorem dJ0_length_8abf5_10 : decode cJ0_length_8abf5 10 = .ok (.ireturn, 1) := by decide +kernel
set_option maxRecDepth 20000 in
theorem ggJ0_charAt_5068e_J0_isLatin1_aae02 : GoodIn wsJ0_charAt_5068e wsJ0_isLatin1_aae02 := goodIn_r _ [6, 7, 8] (by decide +kernel) (by decide +kernel)
set_option maxRecDepth 20000 in
theorem gJ0_charAt_5068e_J0_isLatin1_aae02 : GoodIn wsJ0_charAt_5068e (wsV RJ0 492 RJ0 yJ0_isLatin1_aae02 wsJ0_isLatin1_aae02) := goodIn_app (goodIn_of _ (by decide +kernel)) ggJ0_charAt_5068e_J0_isLatin1_aae02
set_option maxRecDepth 20000 in
theorem ggJ0_charAt_5068e_J1_charAt_3b067 : GoodIn wsJ0_charAt_5068e wsJ1_charAt_3b067 := goodIn_r _ [12, 13, 14, 5, 15, 16, 17, 18, 19, 20] (by decide +kernel) (by decide +kernel)
set_option maxRecDepth 20000 in
theorem gJ0_charAt_5068e_J1_charAt_3b067 : GoodIn wsJ0_charAt_5068e (va_wsS RJ0 495 yJ1_charAt_3b067 wsJ1_charAt_3b067) := goodIn_app (goodIn_of _ (by decide +kernel)) ggJ0_charAt_5068e_J1_charAt_3b067
set_option maxRecDepth 20000 in
theorem ggJ0_charAt_5068e_J2_charAt_3b067 : GoodIn wsJ0_charAt_5068e wsJ2_charAt_3b067 := goodIn_r _ [24, 25, 26, 23, 27, 28, 29, 30, 31, 14, 5, 15, 16, 17, 18, 19, 20, 32, 33, 34, 35, 36, 37] (by decide +kernel) (by decide +kernel)
set_option maxRecDepth 20000 in
theorem gJ0_charAt_5068e_J2_charAt_3b067 : GoodIn wsJ0_charAt_5068e (va_wsS RJ0 498 yJ2_charAt_3b067 wsJ2_charAt_3b067) := goodIn_app (goodIn_of _ (by decide +kernel)) ggJ0_charAt_5068e_J2_charAt_3b067
theorem dJ0_charAt_5068e_0 : decode cJ0_charAt_5068e 0 = .ok (.aload_n 0, 1) := by decide +kernel
theorem dJ0_charAt_5068e_1 : decode cJ0_charAt_5068e 1 = .ok (.invokevirtual 492, 3) := by decide +kernel
theorem dJ0_charAt_5068e_4 : decode cJ0_charAt_5068e 4 = .ok (.ifCond .eq 12, 3) := by decide +kernel
theorem dJ0_charAt_5068e_7 : decode cJ0_charAt_5068e 7 = .ok (.aload_n 0, 1) := by decide +kernel
theorem dJ0_charAt_5068e_8 : decode cJ0_charAt_5068e 8 = .ok (.getfield 9, 3) := by decide +kernel
theorem dJ0_charAt_5068e_11 : decode cJ0_charAt_5068e 11 = .ok (.iload_n 1, 1) := by decide +kernel
theorem dJ0_charAt_5068e_12 : decode cJ0_charAt_5068e 12 = .ok (.invokestatic 495, 3) := by decide +kernel
theorem dJ0_charAt_5068e_15 : decode cJ0_charAt_5068e 15 = .ok (.ireturn, 1) := by decide +kernel
theorem dJ0_charAt_5068e_16 : decode cJ0_charAt_5068e 16 = .ok (.aload_n 0, 1) := by decide +kernel
theorem dJ0_charAt_5068e_17 : decode cJ0_charAt_5068e 17 = .ok (.getfield 9, 3) := by decide +kernel
theorem dJ0_charAt_5068e_20 : decode cJ0_charAt_5068e 20 = .ok (.iload_n 1, 1) := by decide +kernel
theorem dJ0_charAt_5068e_21 : decode cJ0_charAt_5068e 21 = .ok (.invokestatic 498, 3) := by decide +kernel
theorem dJ0_charAt_5068e_24 : decode cJ0_charAt_5068e 24 = .ok (.ireturn, 1) := by decide +kernel
theorem dJ0_coder_7d493_0 : decode cJ0_coder_7d493 0 = .ok (.getstatic 38, 3) := by decide +kernel
theorem dJ0_coder_7d493_3 : decode cJ0_coder_7d493 3 = .ok (.ifCond .eq 10, 3) := by decide +kernel
theorem dJ0_coder_7d493_6 : decode cJ0_coder_7d493 6 = .ok (.aload_n 0, 1) := by decide +kernel
theorem dJ0_coder_7d493_7 : decode cJ0_coder_7d493 7 = .ok (.getfield 15, 3) := by decide +kernel
theorem dJ0_coder_7d493_10 : decode cJ0_coder_7d493 10 = .ok (.goto 4, 3) := by decide +kernel
theorem dJ0_coder_7d493_13 : decode cJ0_coder_7d493 13 = .ok (.iconst 1, 1) := by decide +kernel
theorem dJ0_coder_7d493_14 : decode cJ0_coder_7d493 14 = .ok (.ireturn, 1) := by decide +kernel
theorem dJ0_isLatin1_aae02_0 : decode cJ0_isLatin1_aae02 0 = .ok (.getstatic 38, 3) := by decide +kernel
theorem dJ0_isLatin1_aae02_3 : decode cJ0_isLatin1_aae02 3 = .ok (.ifCond .eq 14, 3) := by decide +kernel
theorem dJ0_isLatin1_aae02_6 : decode cJ0_isLatin1_aae02 6 = .ok (.aload_n 0, 1) := by decide +kernel
theorem dJ0_isLatin1_aae02_7 : decode cJ0_isLatin1_aae02 7 = .ok (.getfield 15, 3) := by decide +kernel
theorem dJ0_isLatin1_aae02_10 : decode cJ0_isLatin1_aae02 10 = .ok (.ifCond .ne 7, 3) := by decide +kernel
theorem dJ0_isLatin1_aae02_13 : decode cJ0_isLatin1_aae02 13 = .ok (.iconst 1, 1) := by decide +kernel
theorem dJ0_isLatin1_aae02_14 : decode cJ0_isLatin1_aae02 14 = .ok (.goto 4, 3) := by decide +kernel
theorem dJ0_isLatin1_aae02_17 : decode cJ0_isLatin1_aae02 17 = .ok (.iconst 0, 1) := by decide +kernel
theorem dJ0_isLatin1_aae02_18 : decode cJ0_isLatin1_aae02 18 = .ok (.ireturn, 1) := by decide +kernel
set_option maxRecDepth 20000 in
theorem ggJ0_checkIndex_df160_J3_checkIndex_8e157 : GoodIn wsJ0_checkIndex_df160 wsJ3_checkIndex_8e157 := goodIn_r _ [5] (by decide +kernel) (by decide +kernel)
set_option maxRecDepth 20000 in
theorem gJ0_checkIndex_df160_J3_checkIndex_8e157 : GoodIn wsJ0_checkIndex_df160 (va_wsS RJ0 1059 yJ3_checkIndex_8e157 wsJ3_checkIndex_8e157) := goodIn_app (goodIn_of _ (by decide +kernel)) ggJ0_checkIndex_df160_J3_checkIndex_8e157
theorem dJ0_checkIndex_df160_0 : decode cJ0_checkIndex_df160 0 = .ok (.iload_n 0, 1) := by decide +kernel
theorem dJ0_checkIndex_df160_1 : decode cJ0_checkIndex_df160 1 = .ok (.iload_n 1, 1) := by decide +kernel
theorem dJ0_checkIndex_df160_2 : decode cJ0_checkIndex_df160 2 = .ok (.getstatic 1053, 3) := by decide +kernel
theorem dJ0_checkIndex_df160_5 : decode cJ0_checkIndex_df160 5 = .ok (.invokestatic 1059, 3) := by decide +kernel
theorem dJ0_checkIndex_df160_8 : decode cJ0_checkIndex_df160 8 = .ok (.pop, 1) := by decide +kernel
theorem dJ0_checkIndex_df160_9 : decode cJ0_checkIndex_df160 9 = .ok (.return_, 1) := by decide +kernel
set_option maxRecDepth 20000 in
theorem ggJ1_charAt_3b067_J0_checkIndex_df160 : GoodIn wsJ1_charAt_3b067 wsJ0_checkIndex_df160 := goodIn_r _ [4, 5, 6, 7, 8, 9] (by decide +kernel) (by decide +kernel)
set_option maxRecDepth 20000 in
theorem gJ1_charAt_3b067_J0_checkIndex_df160 : GoodIn wsJ1_charAt_3b067 (va_wsS RJ1 9 yJ0_checkIndex_df160 wsJ0_checkIndex_df160) := goodIn_app (goodIn_of _ (by decide +kernel)) ggJ1_charAt_3b067_J0_checkIndex_df160
theorem dJ1_charAt_3b067_0 : decode cJ1_charAt_3b067 0 = .ok (.iload_n 1, 1) := by decide +kernel
theorem dJ1_charAt_3b067_1 : decode cJ1_charAt_3b067 1 = .ok (.aload_n 0, 1) := by decide +kernel
theorem dJ1_charAt_3b067_2 : decode cJ1_charAt_3b067 2 = .ok (.arraylength, 1) := by decide +kernel
theorem dJ1_charAt_3b067_3 : decode cJ1_charAt_3b067 3 = .ok (.invokestatic 9, 3) := by decide +kernel
theorem dJ1_charAt_3b067_6 : decode cJ1_charAt_3b067 6 = .ok (.aload_n 0, 1) := by decide +kernel
theorem dJ1_charAt_3b067_7 : decode cJ1_charAt_3b067 7 = .ok (.iload_n 1, 1) := by decide +kernel
theorem dJ1_charAt_3b067_8 : decode cJ1_charAt_3b067 8 = .ok (.baload, 1) := by decide +kernel
theorem dJ1_charAt_3b067_9 : decode cJ1_charAt_3b067 9 = .ok (.sipush 255, 3) := by decide +kernel
theorem dJ1_charAt_3b067_12 : decode cJ1_charAt_3b067 12 = .ok (.iand, 1) := by decide +kernel
theorem dJ1_charAt_3b067_13 : decode cJ1_charAt_3b067 13 = .ok (.i2c, 1) := by decide +kernel
theorem dJ1_charAt_3b067_14 : decode cJ1_charAt_3b067 14 = .ok (.ireturn, 1) := by decide +kernel
set_option maxRecDepth 20000 in
theorem ggJ2_getChar_3b067_J2_length_9d52b : GoodIn wsJ2_getChar_3b067 wsJ2_length_9d52b := goodIn_r _ [7] (by decide +kernel) (by decide +kernel)
set_option maxRecDepth 20000 in
theorem gJ2_getChar_3b067_J2_length_9d52b : GoodIn wsJ2_getChar_3b067 (va_wsS RJ2 48 yJ2_length_9d52b wsJ2_length_9d52b) := goodIn_app (goodIn_of _ (by decide +kernel)) ggJ2_getChar_3b067_J2_length_9d52b
theorem dJ2_getChar_3b067_0 : decode cJ2_getChar_3b067 0 = .ok (.getstatic 44, 3) := by decide +kernel
theorem dJ2_getChar_3b067_3 : decode cJ2_getChar_3b067 3 = .ok (.ifCond .ne 25, 3) := by decide +kernel
theorem dJ2_getChar_3b067_6 : decode cJ2_getChar_3b067 6 = .ok (.iload_n 1, 1) := by decide +kernel
theorem dJ2_getChar_3b067_7 : decode cJ2_getChar_3b067 7 = .ok (.ifCond .lt 11, 3) := by decide +kernel
theorem dJ2_getChar_3b067_10 : decode cJ2_getChar_3b067 10 = .ok (.iload_n 1, 1) := by decide +kernel
theorem dJ2_getChar_3b067_11 : decode cJ2_getChar_3b067 11 = .ok (.aload_n 0, 1) := by decide +kernel
theorem dJ2_getChar_3b067_12 : decode cJ2_getChar_3b067 12 = .ok (.invokestatic 48, 3) := by decide +kernel
theorem dJ2_getChar_3b067_15 : decode cJ2_getChar_3b067 15 = .ok (.if_icmp .lt 13, 3) := by decide +kernel
theorem dJ2_getChar_3b067_18 : decode cJ2_getChar_3b067 18 = .ok (.new 52, 3) := by decide +kernel
theorem dJ2_getChar_3b067_21 : decode cJ2_getChar_3b067 21 = .ok (.dup, 1) := by decide +kernel
theorem dJ2_getChar_3b067_22 : decode cJ2_getChar_3b067 22 = .ok (.ldc 54, 2) := by decide +kernel
theorem dJ2_getChar_3b067_24 : decode cJ2_getChar_3b067 24 = .ok (.invokespecial 56, 3) := by decide +kernel
theorem dJ2_getChar_3b067_27 : decode cJ2_getChar_3b067 27 = .ok (.athrow, 1) := by decide +kernel
theorem dJ2_getChar_3b067_28 : decode cJ2_getChar_3b067 28 = .ok (.iload_n 1, 1) := by decide +kernel
theorem dJ2_getChar_3b067_29 : decode cJ2_getChar_3b067 29 = .ok (.iconst 1, 1) := by decide +kernel
theorem dJ2_getChar_3b067_30 : decode cJ2_getChar_3b067 30 = .ok (.ishl, 1) := by decide +kernel
theorem dJ2_getChar_3b067_31 : decode cJ2_getChar_3b067 31 = .ok (.istore_n 1, 1) := by decide +kernel
theorem dJ2_getChar_3b067_32 : decode cJ2_getChar_3b067 32 = .ok (.aload_n 0, 1) := by decide +kernel
theorem dJ2_getChar_3b067_33 : decode cJ2_getChar_3b067 33 = .ok (.iload_n 1, 1) := by decide +kernel
theorem dJ2_getChar_3b067_34 : decode cJ2_getChar_3b067 34 = .ok (.iinc 1 1, 3) := by decide +kernel
theorem dJ2_getChar_3b067_37 : decode cJ2_getChar_3b067 37 = .ok (.baload, 1) := by decide +kernel
theorem dJ2_getChar_3b067_38 : decode cJ2_getChar_3b067 38 = .ok (.sipush 255, 3) := by decide +kernel
theorem dJ2_getChar_3b067_41 : decode cJ2_getChar_3b067 41 = .ok (.iand, 1) := by decide +kernel
theorem dJ2_getChar_3b067_42 : decode cJ2_getChar_3b067 42 = .ok (.getstatic 59, 3) := by decide +kernel
theorem dJ2_getChar_3b067_45 : decode cJ2_getChar_3b067 45 = .ok (.ishl, 1) := by decide +kernel
theorem dJ2_getChar_3b067_46 : decode cJ2_getChar_3b067 46 = .ok (.aload_n 0, 1) := by decide +kernel
theorem dJ2_getChar_3b067_47 : decode cJ2_getChar_3b067 47 = .ok (.iload_n 1, 1) := by decide +kernel
theorem dJ2_getChar_3b067_48 : decode cJ2_getChar_3b067 48 = .ok (.baload, 1) := by decide +kernel
theorem dJ2_getChar_3b067_49 : decode cJ2_getChar_3b067 49 = .ok (.sipush 255, 3) := by decide +kernel
theorem dJ2_getChar_3b067_52 : decode cJ2_getChar_3b067 52 = .ok (.iand, 1) := by decide +kernel
theorem dJ2_getChar_3b067_53 : decode cJ2_getChar_3b067 53 = .ok (.getstatic 63, 3) := by decide +kernel
theorem dJ2_getChar_3b067_56 : decode cJ2_getChar_3b067 56 = .ok (.ishl, 1) := by decide +kernel
theorem dJ2_getChar_3b067_57 : decode cJ2_getChar_3b067 57 = .ok (.ior, 1) := by decide +kernel
theorem dJ2_getChar_3b067_58 : decode cJ2_getChar_3b067 58 = .ok (.i2c, 1) := by decide +kernel
theorem dJ2_getChar_3b067_59 : decode cJ2_getChar_3b067 59 = .ok (.ireturn, 1) := by decide +kernel
theorem dJ2_length_9d52b_0 : decode cJ2_length_9d52b 0 = .ok (.aload_n 0, 1) := by decide +kernel
theorem dJ2_length_9d52b_1 : decode cJ2_length_9d52b 1 = .ok (.arraylength, 1) := by decide +kernel
theorem dJ2_length_9d52b_2 : decode cJ2_length_9d52b 2 = .ok (.iconst 1, 1) := by decide +kernel
theorem dJ2_length_9d52b_3 : decode cJ2_length_9d52b 3 = .ok (.ishr, 1) := by decide +kernel
theorem dJ2_length_9d52b_4 : decode cJ2_length_9d52b 4 = .ok (.ireturn, 1) := by decide +kernel
set_option maxRecDepth 20000 in
theorem ggJ2_charAt_3b067_J2_checkIndex_2214a : GoodIn wsJ2_charAt_3b067 wsJ2_checkIndex_2214a := goodIn_r _ [4, 5, 6, 3, 7, 8, 9, 10, 11, 12, 13, 14, 15, 16] (by decide +kernel) (by decide +kernel)
set_option maxRecDepth 20000 in
theorem gJ2_charAt_3b067_J2_checkIndex_2214a : GoodIn wsJ2_charAt_3b067 (va_wsS RJ2 67 yJ2_checkIndex_2214a wsJ2_checkIndex_2214a) := goodIn_app (goodIn_of _ (by decide +kernel)) ggJ2_charAt_3b067_J2_checkIndex_2214a
set_option maxRecDepth 20000 in
theorem ggJ2_charAt_3b067_J2_getChar_3b067 : GoodIn wsJ2_charAt_3b067 wsJ2_getChar_3b067 := goodIn_r _ [19, 20, 21, 22, 5, 6, 3, 7] (by decide +kernel) (by decide +kernel)
set_option maxRecDepth 20000 in
theorem gJ2_charAt_3b067_J2_getChar_3b067 : GoodIn wsJ2_charAt_3b067 (va_wsS RJ2 71 yJ2_getChar_3b067 wsJ2_getChar_3b067) := goodIn_app (goodIn_of _ (by decide +kernel)) ggJ2_charAt_3b067_J2_getChar_3b067
theorem dJ2_charAt_3b067_0 : decode cJ2_charAt_3b067 0 = .ok (.iload_n 1, 1) := by decide +kernel
theorem dJ2_charAt_3b067_1 : decode cJ2_charAt_3b067 1 = .ok (.aload_n 0, 1) := by decide +kernel
theorem dJ2_charAt_3b067_2 : decode cJ2_charAt_3b067 2 = .ok (.invokestatic 67, 3) := by decide +kernel
theorem dJ2_charAt_3b067_5 : decode cJ2_charAt_3b067 5 = .ok (.aload_n 0, 1) := by decide +kernel
theorem dJ2_charAt_3b067_6 : decode cJ2_charAt_3b067 6 = .ok (.iload_n 1, 1) := by decide +kernel
theorem dJ2_charAt_3b067_7 : decode cJ2_charAt_3b067 7 = .ok (.invokestatic 71, 3) := by decide +kernel
theorem dJ2_charAt_3b067_10 : decode cJ2_charAt_3b067 10 = .ok (.ireturn, 1) := by decide +kernel
set_option maxRecDepth 20000 in
theorem ggJ2_checkIndex_2214a_J2_length_9d52b : GoodIn wsJ2_checkIndex_2214a wsJ2_length_9d52b := goodIn_r _ [4] (by decide +kernel) (by decide +kernel)
set_option maxRecDepth 20000 in
theorem gJ2_checkIndex_2214a_J2_length_9d52b : GoodIn wsJ2_checkIndex_2214a (va_wsS RJ2 48 yJ2_length_9d52b wsJ2_length_9d52b) := goodIn_app (goodIn_of _ (by decide +kernel)) ggJ2_checkIndex_2214a_J2_length_9d52b
set_option maxRecDepth 20000 in
theorem ggJ2_checkIndex_2214a_J0_checkIndex_df160 : GoodIn wsJ2_checkIndex_2214a wsJ0_checkIndex_df160 := goodIn_r _ [8, 9, 10, 11, 12, 13] (by decide +kernel) (by decide +kernel)
set_option maxRecDepth 20000 in
theorem gJ2_checkIndex_2214a_J0_checkIndex_df160 : GoodIn wsJ2_checkIndex_2214a (va_wsS RJ2 414 yJ0_checkIndex_df160 wsJ0_checkIndex_df160) := goodIn_app (goodIn_of _ (by decide +kernel)) ggJ2_checkIndex_2214a_J0_checkIndex_df160
theorem dJ2_checkIndex_2214a_0 : decode cJ2_checkIndex_2214a 0 = .ok (.iload_n 0, 1) := by decide +kernel
theorem dJ2_checkIndex_2214a_1 : decode cJ2_checkIndex_2214a 1 = .ok (.aload_n 1, 1) := by decide +kernel
theorem dJ2_checkIndex_2214a_2 : decode cJ2_checkIndex_2214a 2 = .ok (.invokestatic 48, 3) := by decide +kernel
theorem dJ2_checkIndex_2214a_5 : decode cJ2_checkIndex_2214a 5 = .ok (.invokestatic 414, 3) := by decide +kernel
theorem dJ2_checkIndex_2214a_8 : decode cJ2_checkIndex_2214a 8 = .ok (.return_, 1) := by decide +kernel
theorem dJ7_fill_d0a16_0 : decode cJ7_fill_d0a16 0 = .ok (.iconst 0, 1) := by decide +kernel
theorem dJ7_fill_d0a16_1 : decode cJ7_fill_d0a16 1 = .ok (.istore_n 3, 1) := by decide +kernel
theorem dJ7_fill_d0a16_2 : decode cJ7_fill_d0a16 2 = .ok (.aload_n 0, 1) := by decide +kernel
theorem dJ7_fill_d0a16_3 : decode cJ7_fill_d0a16 3 = .ok (.arraylength, 1) := by decide +kernel
theorem dJ7_fill_d0a16_4 : decode cJ7_fill_d0a16 4 = .ok (.istore 4, 2) := by decide +kernel
theorem dJ7_fill_d0a16_6 : decode cJ7_fill_d0a16 6 = .ok (.iload_n 3, 1) := by decide +kernel
theorem dJ7_fill_d0a16_7 : decode cJ7_fill_d0a16 7 = .ok (.iload 4, 2) := by decide +kernel
theorem dJ7_fill_d0a16_9 : decode cJ7_fill_d0a16 9 = .ok (.if_icmp .ge 13, 3) := by decide +kernel
theorem dJ7_fill_d0a16_12 : decode cJ7_fill_d0a16 12 = .ok (.aload_n 0, 1) := by decide +kernel
theorem dJ7_fill_d0a16_13 : decode cJ7_fill_d0a16 13 = .ok (.iload_n 3, 1) := by decide +kernel
theorem dJ7_fill_d0a16_14 : decode cJ7_fill_d0a16 14 = .ok (.lload_n 1, 1) := by decide +kernel
theorem dJ7_fill_d0a16_15 : decode cJ7_fill_d0a16 15 = .ok (.lastore, 1) := by decide +kernel
theorem dJ7_fill_d0a16_16 : decode cJ7_fill_d0a16 16 = .ok (.iinc 3 1, 3) := by decide +kernel
theorem dJ7_fill_d0a16_19 : decode cJ7_fill_d0a16 19 = .ok (.goto (-13), 3) := by decide +kernel
theorem dJ7_fill_d0a16_22 : decode cJ7_fill_d0a16 22 = .ok (.return_, 1) := by decide +kernel
theorem dJ7_fill_53178_0 : decode cJ7_fill_53178 0 = .ok (.iconst 0, 1) := by decide +kernel
theorem dJ7_fill_53178_1 : decode cJ7_fill_53178 1 = .ok (.istore_n 2, 1) := by decide +kernel
theorem dJ7_fill_53178_2 : decode cJ7_fill_53178 2 = .ok (.aload_n 0, 1) := by decide +kernel
theorem dJ7_fill_53178_3 : decode cJ7_fill_53178 3 = .ok (.arraylength, 1) := by decide +kernel
theorem dJ7_fill_53178_4 : decode cJ7_fill_53178 4 = .ok (.istore_n 3, 1) := by decide +kernel
theorem dJ7_fill_53178_5 : decode cJ7_fill_53178 5 = .ok (.iload_n 2, 1) := by decide +kernel
theorem dJ7_fill_53178_6 : decode cJ7_fill_53178 6 = .ok (.iload_n 3, 1) := by decide +kernel
theorem dJ7_fill_53178_7 : decode cJ7_fill_53178 7 = .ok (.if_icmp .ge 13, 3) := by decide +kernel
theorem dJ7_fill_53178_10 : decode cJ7_fill_53178 10 = .ok (.aload_n 0, 1) := by decide +kernel
theorem dJ7_fill_53178_11 : decode cJ7_fill_53178 11 = .ok (.iload_n 2, 1) := by decide +kernel
theorem dJ7_fill_53178_12 : decode cJ7_fill_53178 12 = .ok (.iload_n 1, 1) := by decide +kernel
theorem dJ7_fill_53178_13 : decode cJ7_fill_53178 13 = .ok (.iastore, 1) := by decide +kernel
theorem dJ7_fill_53178_14 : decode cJ7_fill_53178 14 = .ok (.iinc 2 1, 3) := by decide +kernel
theorem dJ7_fill_53178_17 : decode cJ7_fill_53178 17 = .ok (.goto (-12), 3) := by decide +kernel
theorem dJ7_fill_53178_20 : decode cJ7_fill_53178 20 = .ok (.return_, 1) := by decide +kernel
theorem dJ3_checkIndex_8e157_0 : decode cJ3_checkIndex_8e157 0 = .ok (.iload_n 0, 1) := by decide +kernel
theorem dJ3_checkIndex_8e157_1 : decode cJ3_checkIndex_8e157 1 = .ok (.ifCond .lt 8, 3) := by decide +kernel
theorem dJ3_checkIndex_8e157_4 : decode cJ3_checkIndex_8e157 4 = .ok (.iload_n 0, 1) := by decide +kernel
theorem dJ3_checkIndex_8e157_5 : decode cJ3_checkIndex_8e157 5 = .ok (.iload_n 1, 1) := by decide +kernel
theorem dJ3_checkIndex_8e157_6 : decode cJ3_checkIndex_8e157 6 = .ok (.if_icmp .lt 10, 3) := by decide +kernel
theorem dJ3_checkIndex_8e157_9 : decode cJ3_checkIndex_8e157 9 = .ok (.aload_n 2, 1) := by decide +kernel
theorem dJ3_checkIndex_8e157_10 : decode cJ3_checkIndex_8e157 10 = .ok (.iload_n 0, 1) := by decide +kernel
theorem dJ3_checkIndex_8e157_11 : decode cJ3_checkIndex_8e157 11 = .ok (.iload_n 1, 1) := by decide +kernel
theorem dJ3_checkIndex_8e157_12 : decode cJ3_checkIndex_8e157 12 = .ok (.invokestatic 95, 3) := by decide +kernel
theorem dJ3_checkIndex_8e157_15 : decode cJ3_checkIndex_8e157 15 = .ok (.athrow, 1) := by decide +kernel
theorem dJ3_checkIndex_8e157_16 : decode cJ3_checkIndex_8e157 16 = .ok (.iload_n 0, 1) := by decide +kernel
theorem dJ3_checkIndex_8e157_17 : decode cJ3_checkIndex_8e157 17 = .ok (.ireturn, 1) := by decide +kernel
set_option maxRecDepth 20000 in
theorem ggL_gapOf_X10_gapOf : GoodIn wsL_gapOf wsX10_gapOf := goodIn_ca (goodIn_r _ [6, 7, 8, 9, 10, 11, 12, 13, 14, 15, 16, 17, 18, 19, 5, 20, 21, 22, 23, 24, 25, 26, 27, 28, 29, 30, 31, 32, 33, 34, 35, 36, 37, 38, 39, 40, 41, 42, 43, 44, 45, 46, 47, 48, 49, 50, 51, 52, 53, 54, 55, 56, 57, 58, 59, 60, 61, 62, 63, 64, 65, 66, 67, 68, 69, 70, 71, 72, 73, 74, 75, 76, 77, 78, 79, 80, 81, 82, 83, 84, 85, 86, 87, 88, 89, 90, 91, 92, 93, 94, 95, 96, 97, 98, 99, 100, 101, 102, 103, 104, 105, 106, 107, 108, 109] (by decide +kernel) (by decide +kernel)) (goodIn_sub (fun _ h => List.mem_cons_of_mem _ (List.mem_append_right _ h)) (by decide +kernel))
set_option maxRecDepth 20000 in
theorem gL_gapOf_X10_gapOf : GoodIn wsL_gapOf (wsV RL 7 RX10 yX10_gapOf wsX10_gapOf) := goodIn_app (goodIn_of _ (by decide +kernel)) ggL_gapOf_X10_gapOf
theorem dL_gapOf_0 : decode cL_gapOf 0 = .ok (.aload_n 3, 1) := by decide +kernel
theorem dL_gapOf_1 : decode cL_gapOf 1 = .ok (.iconst 0, 1) := by decide +kernel
theorem dL_gapOf_2 : decode cL_gapOf 2 = .ok (.aload_n 0, 1) := by decide +kernel
theorem dL_gapOf_3 : decode cL_gapOf 3 = .ok (.iload_n 1, 1) := by decide +kernel
theorem dL_gapOf_4 : decode cL_gapOf 4 = .ok (.iload_n 2, 1) := by decide +kernel
theorem dL_gapOf_5 : decode cL_gapOf 5 = .ok (.invokevirtual 7, 3) := by decide +kernel
theorem dL_gapOf_8 : decode cL_gapOf 8 = .ok (.i2l, 1) := by decide +kernel
theorem dL_gapOf_9 : decode cL_gapOf 9 = .ok (.lastore, 1) := by decide +kernel
theorem dL_gapOf_10 : decode cL_gapOf 10 = .ok (.goto 7, 3) := by decide +kernel
theorem dL_gapOf_13 : decode cL_gapOf 13 = .ok (.astore 4, 2) := by decide +kernel
theorem dL_gapOf_15 : decode cL_gapOf 15 = .ok (.iconst 1, 1) := by decide +kernel
theorem dL_gapOf_16 : decode cL_gapOf 16 = .ok (.ireturn, 1) := by decide +kernel
theorem dL_gapOf_17 : decode cL_gapOf 17 = .ok (.iconst 0, 1) := by decide +kernel
theorem dL_gapOf_18 : decode cL_gapOf 18 = .ok (.ireturn, 1) := by decide +kernel
set_option maxRecDepth 20000 in
theorem ggL_targetOf_X10_targetOf : GoodIn wsL_targetOf wsX10_targetOf := goodIn_ca (goodIn_r _ [6, 7, 8, 9, 10, 11, 12, 13, 14, 15, 16, 17, 18, 19, 20, 21, 5, 22, 23, 24, 25, 26, 27, 28, 29, 30, 31, 32, 33, 34, 35, 36, 37, 38, 39, 40, 41, 42, 43, 44, 45, 46, 47, 48, 49, 50, 51, 52, 53, 54, 55, 56, 57, 58, 59, 60, 61, 62, 63, 64, 65, 66, 67, 68, 69, 70, 71, 72, 73, 74, 75, 76, 77, 78, 79, 80, 81, 82, 83, 84, 85, 86, 87, 88, 89, 90, 91, 92, 93, 94, 95, 96, 97, 98, 99, 100, 101, 102, 103, 104, 105, 106, 107, 108, 109, 110, 111, 112, 113, 114, 115, 116, 117, 118, 119, 120, 121, 122, 123, 124, 125, 126, 127, 128, 129] (by decide +kernel) (by decide +kernel)) (goodIn_sub (fun _ h => List.mem_cons_of_mem _ (List.mem_append_right _ h)) (by decide +kernel))
set_option maxRecDepth 20000 in
theorem gL_targetOf_X10_targetOf : GoodIn wsL_targetOf (wsV RL 15 RX10 yX10_targetOf wsX10_targetOf) := goodIn_app (goodIn_of _ (by decide +kernel)) ggL_targetOf_X10_targetOf
theorem dL_targetOf_0 : decode cL_targetOf 0 = .ok (.aload_n 3, 1) := by decide +kernel
theorem dL_targetOf_1 : decode cL_targetOf 1 = .ok (.iconst 0, 1) := by decide +kernel
theorem dL_targetOf_2 : decode cL_targetOf 2 = .ok (.aload_n 0, 1) := by decide +kernel
theorem dL_targetOf_3 : decode cL_targetOf 3 = .ok (.iload_n 1, 1) := by decide +kernel
theorem dL_targetOf_4 : decode cL_targetOf 4 = .ok (.iload_n 2, 1) := by decide +kernel
theorem dL_targetOf_5 : decode cL_targetOf 5 = .ok (.invokevirtual 15, 3) := by decide +kernel
theorem dL_targetOf_8 : decode cL_targetOf 8 = .ok (.i2l, 1) := by decide +kernel
theorem dL_targetOf_9 : decode cL_targetOf 9 = .ok (.lastore, 1) := by decide +kernel
theorem dL_targetOf_10 : decode cL_targetOf 10 = .ok (.goto 7, 3) := by decide +kernel
theorem dL_targetOf_13 : decode cL_targetOf 13 = .ok (.astore 4, 2) := by decide +kernel
theorem dL_targetOf_15 : decode cL_targetOf 15 = .ok (.iconst 1, 1) := by decide +kernel
theorem dL_targetOf_16 : decode cL_targetOf 16 = .ok (.ireturn, 1) := by decide +kernel
theorem dL_targetOf_17 : decode cL_targetOf 17 = .ok (.iconst 0, 1) := by decide +kernel
theorem dL_targetOf_18 : decode cL_targetOf 18 = .ok (.ireturn, 1) := by decide +kernel
set_option maxRecDepth 20000 in
theorem ggL_law_X10_init : GoodIn wsL_law wsX10_init := goodIn_r _ [10, 11, 12, 13, 14, 15, 16, 17, 18, 19, 20, 21, 22, 23, 24, 25, 26, 27, 28, 29, 30, 31, 32, 33, 34, 35, 36, 37, 38, 39, 40, 41, 42, 43, 44, 45, 46, 47, 48, 49, 50, 51, 52, 53, 54, 55, 56, 57, 58, 59, 60, 61, 62, 63, 64, 65, 66, 67, 68, 69, 70, 71, 72, 73, 74, 75, 76, 77, 78, 79, 80, 81, 82, 83, 84, 85, 86, 87, 88, 89, 90, 91, 92, 93, 94, 95, 96, 97, 98, 99, 100, 101, 102, 103, 104, 105, 106, 107, 108, 109, 110, 6, 111, 112, 113, 114, 115, 116, 117, 118, 119, 1361, 1362, 1363, 1364, 1365, 1366, 1367, 1368, 1369, 1370, 1371, 1372, 1373, 1317, 1318, 1319, 1320, 1321, 1322, 1323, 1324, 1325, 1326, 1327, 1328, 1329, 1330, 1374, 1375, 1376, 1377, 1378, 1379, 1380, 1381, 1382, 1383, 1384, 1385, 1386, 1387, 1388, 1389, 1390, 1391, 1392, 1393, 1394, 1395, 1396, 1397, 1398, 1399, 1400, 1401, 1402, 1403, 1404, 1405, 1406, 1407, 1408, 1409, 1410, 1411, 1412, 1413, 1414, 1415, 1416] (by decide +kernel) (by decide +kernel)
set_option maxRecDepth 20000 in
theorem gL_law_X10_init : GoodIn wsL_law (wsX10_init) := ggL_law_X10_init
set_option maxRecDepth 20000 in
theorem ggL_law_X11_init : GoodIn wsL_law wsX11_init := goodIn_r _ [122, 123, 12, 13, 55, 124, 125, 126, 33, 127, 128, 129, 130, 131, 132, 133, 134, 135, 136, 137, 138, 139, 140, 141, 142, 143, 5, 144, 145, 146, 147, 148, 149, 150, 151, 152, 1331, 1332, 1333, 1334, 1335, 1336, 1337, 1338, 1339, 1340, 1341, 1342, 1343, 1344, 1345, 1346, 1347, 1348, 1349, 1350, 1351, 1352, 1353, 1354, 1355, 1356, 1357, 1358, 1359, 1360] (by decide +kernel) (by decide +kernel)
set_option maxRecDepth 20000 in
theorem gL_law_X11_init : GoodIn wsL_law (wsX11_init) := ggL_law_X11_init
set_option maxRecDepth 20000 in
theorem ggL_law_X10_type : GoodIn wsL_law wsX10_type := goodIn_r _ [156, 22, 157, 158, 159, 2, 160, 161, 162, 163, 21, 164, 165, 76, 1317, 1318, 1319, 1320, 1321, 1322, 1323, 1324, 1325, 1326, 1327, 1328, 1329, 1330, 1374, 1375, 1376, 1377] (by decide +kernel) (by decide +kernel)
set_option maxRecDepth 20000 in
theorem gL_law_X10_type : GoodIn wsL_law (wsV RL 24 RX10 yX10_type wsX10_type) := goodIn_app (goodIn_of _ (by decide +kernel)) ggL_law_X10_type
set_option maxRecDepth 20000 in
theorem ggL_law_X11_type : GoodIn wsL_law wsX11_type := goodIn_r _ [169, 170, 171, 124, 126, 1331, 1332, 1333, 1334, 1335, 1336, 1337, 1338, 1339, 1340, 1341, 1342, 1343, 1344, 1345, 1346, 1347, 1348, 1349, 1350, 1351, 1352, 1353, 1354, 1355, 1356, 1357, 1358, 1359, 1360] (by decide +kernel) (by decide +kernel)
set_option maxRecDepth 20000 in
theorem gL_law_X11_type : GoodIn wsL_law (wsV RL 28 RX11 yX11_type wsX11_type) := goodIn_app (goodIn_of _ (by decide +kernel)) ggL_law_X11_type
set_option maxRecDepth 20000 in
theorem ggL_law_X10_read : GoodIn wsL_law wsX10_read := goodIn_r _ [175, 26, 22, 18, 157, 176, 177, 178, 179, 17, 30, 180, 181, 182, 183, 25, 184, 185, 186, 187, 188, 189, 190, 191, 16, 192, 62, 69, 70, 71, 72, 193, 194, 195, 196, 197, 198, 199, 200, 201, 202, 203, 204, 205, 206, 207, 208, 209, 210, 211, 212, 213, 214, 215, 216, 217, 218, 219, 220, 221, 222, 81, 223, 224, 225, 226, 227, 228, 229, 230, 231, 232, 233, 234, 235, 236, 237, 238, 239, 240, 241, 242, 243, 244, 245, 246, 247, 248, 249, 250, 251, 252, 253, 254, 255, 256, 257, 258, 259, 260, 261, 262, 263, 264, 265, 266, 267, 268, 269, 270, 271, 272, 273, 274, 275, 276, 277, 278, 279, 280, 281, 282, 283, 284, 285, 286, 287, 288, 289, 290, 291, 292, 293, 294, 295, 296, 297, 298, 299, 300, 301, 302, 303, 304, 2, 305, 306, 307, 308, 309, 310, 311, 312, 61, 313, 314, 315, 316, 317, 318, 319, 320, 321, 322, 323, 324, 325, 63, 64, 65, 326, 327, 328, 329, 66, 67, 68, 330, 331, 332, 29, 333, 334, 1317, 1318, 1319, 1320, 1321, 1322, 1323, 1324, 1325, 1326, 1327, 1328, 1329, 1330, 1374, 1375, 1376, 1377, 1378, 1379, 1380, 1381, 1382, 1383, 1384, 1361, 1362, 1363, 1364, 1365, 1366, 1367, 1368, 1369, 1370, 1371, 1372, 1373, 1385, 1386, 1387] (by decide +kernel) (by decide +kernel)
set_option maxRecDepth 20000 in
theorem gL_law_X10_read : GoodIn wsL_law (wsV RL 29 RX10 yX10_read wsX10_read) := goodIn_app (goodIn_of _ (by decide +kernel)) ggL_law_X10_read
set_option maxRecDepth 20000 in
theorem ggL_law_X11_read : GoodIn wsL_law wsX11_read := goodIn_r _ [338, 170, 124, 339, 340, 145, 146, 341, 141, 142, 143, 5, 144, 129, 147, 342, 343, 344, 345, 346, 347, 348, 349, 350, 351, 352, 126, 353, 354, 355, 356, 357, 358, 359, 360, 361, 362, 363, 364, 365, 366, 367, 368, 369, 370, 371, 372, 373, 374, 375, 376, 377, 378, 379, 380, 381, 382, 383, 384, 385, 386, 387, 388, 389, 390, 391, 392, 393, 394, 395, 396, 397, 398, 399, 400, 401, 402, 403, 404, 405, 148, 149, 150, 151, 152, 1331, 1332, 1333, 1334, 1335, 1336, 1337, 1338, 1339, 1340, 1341, 1342, 1343, 1344, 1345, 1346, 1347, 1348, 1349, 1350, 1351, 1352, 1353, 1354, 1355, 1356, 1357, 1358, 1359, 1360] (by decide +kernel) (by decide +kernel)
set_option maxRecDepth 20000 in
theorem gL_law_X11_read : GoodIn wsL_law (wsV RL 33 RX11 yX11_read wsX11_read) := goodIn_app (goodIn_of _ (by decide +kernel)) ggL_law_X11_read
set_option maxRecDepth 20000 in
theorem ggL_law_X10_fault : GoodIn wsL_law wsX10_fault := goodIn_r _ [409, 22, 179, 177, 1317, 1318, 1319, 1320, 1321, 1322, 1323, 1324, 1325, 1326, 1327, 1328, 1329, 1330, 1374, 1375, 1376, 1377] (by decide +kernel) (by decide +kernel)
set_option maxRecDepth 20000 in
theorem gL_law_X10_fault : GoodIn wsL_law (wsV RL 34 RX10 yX10_fault wsX10_fault) := goodIn_app (goodIn_of _ (by decide +kernel)) ggL_law_X10_fault
set_option maxRecDepth 20000 in
theorem ggL_law_X11_fault : GoodIn wsL_law wsX11_fault := goodIn_r _ [413, 170, 124, 1331, 1332, 1333, 1334, 1335, 1336, 1337, 1338, 1339, 1340, 1341, 1342, 1343, 1344, 1345, 1346, 1347, 1348, 1349, 1350, 1351, 1352, 1353, 1354, 1355, 1356, 1357, 1358, 1359, 1360] (by decide +kernel) (by decide +kernel)
set_option maxRecDepth 20000 in
theorem gL_law_X11_fault : GoodIn wsL_law (wsV RL 38 RX11 yX11_fault wsX11_fault) := goodIn_app (goodIn_of _ (by decide +kernel)) ggL_law_X11_fault
set_option maxRecDepth 20000 in
theorem ggL_law_X10_gap : GoodIn wsL_law wsX10_gap := goodIn_r _ [417, 17, 30, 180, 418, 310, 311, 16, 312, 193, 61, 419, 420, 421, 29, 422, 334, 423, 87, 424, 327, 328, 329, 69, 70, 71, 72, 62, 63, 64, 65, 66, 67, 68, 194, 195, 196, 197, 425, 426, 427, 428, 429, 430, 431, 432, 433, 304, 2, 305, 306, 307, 308, 434, 319, 320, 321, 1317, 1318, 1319, 1320, 1321, 1322, 1323, 1324, 1325, 1326, 1327, 1328, 1329, 1330, 1361, 1362, 1363, 1364, 1365, 1366, 1367, 1368, 1369, 1370, 1371, 1372, 1373, 1385, 1386, 1387] (by decide +kernel) (by decide +kernel)
set_option maxRecDepth 20000 in
theorem gL_law_X10_gap : GoodIn wsL_law (wsV RL 39 RX10 yX10_gap wsX10_gap) := goodIn_app (goodIn_of _ (by decide +kernel)) ggL_law_X10_gap
set_option maxRecDepth 20000 in
theorem ggL_law_X11_gap : GoodIn wsL_law wsX11_gap := goodIn_r _ [438, 170, 124, 353, 354, 5, 355, 380, 381, 382, 439, 440, 441, 442, 152, 128, 383, 384, 385, 443, 444, 445, 446, 1331, 1332, 1333, 1334, 1335, 1336, 1337, 1338, 1339, 1340, 1341, 1342, 1343, 1344, 1345, 1346, 1347, 1348, 1349, 1350, 1351, 1352, 1353, 1354, 1355, 1356, 1357, 1358, 1359, 1360] (by decide +kernel) (by decide +kernel)
set_option maxRecDepth 20000 in
theorem gL_law_X11_gap : GoodIn wsL_law (wsV RL 43 RX11 yX11_gap wsX11_gap) := goodIn_app (goodIn_of _ (by decide +kernel)) ggL_law_X11_gap
set_option maxRecDepth 20000 in
theorem ggL_law_X10_set : GoodIn wsL_law wsX10_set := goodIn_r _ [450, 451, 452, 17, 453, 30, 306, 307, 2, 308, 419, 420, 421, 29, 422, 334, 423, 87, 424, 327, 328, 16, 329, 61, 69, 70, 71, 72, 62, 63, 64, 65, 66, 67, 68, 193, 194, 195, 196, 197, 1317, 1318, 1319, 1320, 1321, 1322, 1323, 1324, 1325, 1326, 1327, 1328, 1329, 1330, 1361, 1362, 1363, 1364, 1365, 1366, 1367, 1368, 1369, 1370, 1371, 1372, 1373, 1385, 1386, 1387] (by decide +kernel) (by decide +kernel)
set_option maxRecDepth 20000 in
theorem gL_law_X10_set : GoodIn wsL_law (wsV RL 44 RX10 yX10_set wsX10_set) := goodIn_app (goodIn_of _ (by decide +kernel)) ggL_law_X10_set
set_option maxRecDepth 20000 in
theorem ggL_law_X11_set : GoodIn wsL_law wsX11_set := goodIn_r _ [457, 170, 124, 353, 354, 5, 355, 400, 401, 402, 403, 404, 405, 439, 440, 441, 442, 152, 128, 1331, 1332, 1333, 1334, 1335, 1336, 1337, 1338, 1339, 1340, 1341, 1342, 1343, 1344, 1345, 1346, 1347, 1348, 1349, 1350, 1351, 1352, 1353, 1354, 1355, 1356, 1357, 1358, 1359, 1360] (by decide +kernel) (by decide +kernel)
set_option maxRecDepth 20000 in
theorem gL_law_X11_set : GoodIn wsL_law (wsV RL 48 RX11 yX11_set wsX11_set) := goodIn_app (goodIn_of _ (by decide +kernel)) ggL_law_X11_set
set_option maxRecDepth 20000 in
theorem ggL_law_X10_target : GoodIn wsL_law wsX10_target := goodIn_r _ [461, 17, 462, 30, 306, 307, 2, 308, 463, 464, 465, 419, 420, 421, 29, 422, 334, 423, 87, 424, 327, 328, 16, 329, 61, 69, 70, 71, 72, 62, 63, 64, 65, 66, 67, 68, 193, 194, 195, 196, 197, 466, 323, 324, 325, 1317, 1318, 1319, 1320, 1321, 1322, 1323, 1324, 1325, 1326, 1327, 1328, 1329, 1330, 1361, 1362, 1363, 1364, 1365, 1366, 1367, 1368, 1369, 1370, 1371, 1372, 1373, 1385, 1386, 1387] (by decide +kernel) (by decide +kernel)
set_option maxRecDepth 20000 in
theorem gL_law_X10_target : GoodIn wsL_law (wsV RL 49 RX10 yX10_target wsX10_target) := goodIn_app (goodIn_of _ (by decide +kernel)) ggL_law_X10_target
set_option maxRecDepth 20000 in
theorem ggL_law_X11_target : GoodIn wsL_law wsX11_target := goodIn_r _ [470, 170, 124, 353, 354, 5, 355, 439, 440, 441, 442, 152, 128, 1331, 1332, 1333, 1334, 1335, 1336, 1337, 1338, 1339, 1340, 1341, 1342, 1343, 1344, 1345, 1346, 1347, 1348, 1349, 1350, 1351, 1352, 1353, 1354, 1355, 1356, 1357, 1358, 1359, 1360] (by decide +kernel) (by decide +kernel)
set_option maxRecDepth 20000 in
theorem gL_law_X11_target : GoodIn wsL_law (wsV RL 53 RX11 yX11_target wsX11_target) := goodIn_app (goodIn_of _ (by decide +kernel)) ggL_law_X11_target
set_option maxRecDepth 20000 in
theorem ggL_law_X10_leave : GoodIn wsL_law wsX10_leave := goodIn_r _ [474, 17, 30, 462, 475, 476, 477, 16, 478, 194, 419, 420, 421, 29, 422, 334, 423, 87, 424, 327, 328, 329, 61, 69, 70, 71, 72, 62, 63, 64, 65, 66, 67, 68, 193, 195, 196, 197, 479, 480, 481, 482, 483, 1317, 1318, 1319, 1320, 1321, 1322, 1323, 1324, 1325, 1326, 1327, 1328, 1329, 1330, 1361, 1362, 1363, 1364, 1365, 1366, 1367, 1368, 1369, 1370, 1371, 1372, 1373, 1385, 1386, 1387] (by decide +kernel) (by decide +kernel)
set_option maxRecDepth 20000 in
theorem gL_law_X10_leave : GoodIn wsL_law (wsV RL 54 RX10 yX10_leave wsX10_leave) := goodIn_app (goodIn_of _ (by decide +kernel)) ggL_law_X10_leave
set_option maxRecDepth 20000 in
theorem ggL_law_X11_leave : GoodIn wsL_law wsX11_leave := goodIn_r _ [487, 170, 124, 488, 489, 490, 5, 491, 353, 354, 355, 439, 440, 441, 442, 152, 128, 492, 493, 494, 495, 1331, 1332, 1333, 1334, 1335, 1336, 1337, 1338, 1339, 1340, 1341, 1342, 1343, 1344, 1345, 1346, 1347, 1348, 1349, 1350, 1351, 1352, 1353, 1354, 1355, 1356, 1357, 1358, 1359, 1360] (by decide +kernel) (by decide +kernel)
set_option maxRecDepth 20000 in
theorem gL_law_X11_leave : GoodIn wsL_law (wsV RL 58 RX11 yX11_leave wsX11_leave) := goodIn_app (goodIn_of _ (by decide +kernel)) ggL_law_X11_leave
set_option maxRecDepth 20000 in
theorem ggL_law_X10_move : GoodIn wsL_law wsX10_move := goodIn_r _ [499, 17, 500, 501, 30, 306, 307, 2, 308, 419, 420, 421, 29, 422, 334, 423, 87, 424, 327, 328, 16, 329, 61, 69, 70, 71, 72, 62, 63, 64, 65, 66, 67, 68, 193, 194, 195, 196, 197, 502, 503, 504, 505, 506, 507, 508, 509, 510, 511, 480, 481, 482, 483, 476, 477, 478, 1317, 1318, 1319, 1320, 1321, 1322, 1323, 1324, 1325, 1326, 1327, 1328, 1329, 1330, 1361, 1362, 1363, 1364, 1365, 1366, 1367, 1368, 1369, 1370, 1371, 1372, 1373, 1385, 1386, 1387] (by decide +kernel) (by decide +kernel)
set_option maxRecDepth 20000 in
theorem gL_law_X10_move : GoodIn wsL_law (wsV RL 59 RX10 yX10_move wsX10_move) := goodIn_app (goodIn_of _ (by decide +kernel)) ggL_law_X10_move
set_option maxRecDepth 20000 in
theorem ggL_law_X11_move : GoodIn wsL_law wsX11_move := goodIn_r _ [515, 170, 124, 516, 353, 354, 5, 355, 439, 440, 441, 442, 152, 128, 517, 518, 519, 520, 521, 522, 523, 524, 525, 492, 493, 494, 495, 1331, 1332, 1333, 1334, 1335, 1336, 1337, 1338, 1339, 1340, 1341, 1342, 1343, 1344, 1345, 1346, 1347, 1348, 1349, 1350, 1351, 1352, 1353, 1354, 1355, 1356, 1357, 1358, 1359, 1360] (by decide +kernel) (by decide +kernel)
set_option maxRecDepth 20000 in
theorem gL_law_X11_move : GoodIn wsL_law (wsV RL 62 RX11 yX11_move wsX11_move) := goodIn_app (goodIn_of _ (by decide +kernel)) ggL_law_X11_move
set_option maxRecDepth 20000 in
theorem ggL_law_X10_look : GoodIn wsL_law wsX10_look := goodIn_r _ [529, 17, 530, 531, 500, 30, 38, 532, 533, 534, 535, 536, 537, 419, 420, 421, 29, 422, 334, 423, 87, 424, 327, 328, 16, 329, 61, 69, 70, 71, 72, 62, 63, 64, 65, 66, 67, 68, 193, 194, 195, 196, 197, 538, 539, 540, 37, 541, 542, 543, 544, 545, 546, 547, 92, 93, 548, 549, 307, 2, 308, 304, 305, 306, 550, 551, 552, 553, 554, 555, 556, 557, 558, 559, 560, 561, 562, 563, 564, 565, 566, 567, 568, 569, 570, 94, 571, 572, 573, 574, 575, 576, 577, 578, 579, 580, 581, 582, 583, 584, 585, 586, 587, 588, 589, 590, 591, 592, 593, 594, 595, 596, 597, 598, 599, 600, 95, 96, 601, 602, 603, 604, 605, 606, 607, 608, 609, 610, 611, 612, 1317, 1318, 1319, 1320, 1321, 1322, 1323, 1324, 1325, 1326, 1327, 1328, 1329, 1330, 1361, 1362, 1363, 1364, 1365, 1366, 1367, 1368, 1369, 1370, 1371, 1372, 1373, 1388, 1389, 1390, 1391, 1392, 1393, 1385, 1386, 1387] (by decide +kernel) (by decide +kernel)
set_option maxRecDepth 20000 in
theorem gL_law_X10_look : GoodIn wsL_law (wsV RL 63 RX10 yX10_look wsX10_look) := goodIn_app (goodIn_of _ (by decide +kernel)) ggL_law_X10_look
set_option maxRecDepth 20000 in
theorem ggL_law_X11_look : GoodIn wsL_law wsX11_look := goodIn_r _ [616, 170, 124, 617, 131, 618, 619, 620, 5, 621, 439, 440, 441, 442, 152, 128, 622, 623, 624, 625, 133, 130, 132, 626, 627, 628, 629, 630, 631, 632, 633, 522, 523, 524, 525, 443, 444, 445, 446, 634, 635, 636, 637, 638, 639, 640, 641, 642, 643, 644, 645, 646, 647, 648, 649, 650, 651, 1331, 1332, 1333, 1334, 1335, 1336, 1337, 1338, 1339, 1340, 1341, 1342, 1343, 1344, 1345, 1346, 1347, 1348, 1349, 1350, 1351, 1352, 1353, 1354, 1355, 1356, 1357, 1358, 1359, 1360] (by decide +kernel) (by decide +kernel)
set_option maxRecDepth 20000 in
theorem gL_law_X11_look : GoodIn wsL_law (wsV RL 66 RX11 yX11_look wsX11_look) := goodIn_app (goodIn_of _ (by decide +kernel)) ggL_law_X11_look
set_option maxRecDepth 20000 in
theorem ggL_law_X10_undo : GoodIn wsL_law wsX10_undo := goodIn_r _ [655, 30, 656, 17, 657, 658, 659, 29, 660, 334, 87, 423, 424, 327, 328, 16, 329, 61, 69, 70, 71, 72, 62, 63, 64, 65, 66, 67, 68, 193, 194, 195, 196, 197, 1317, 1318, 1319, 1320, 1321, 1322, 1323, 1324, 1325, 1326, 1327, 1328, 1329, 1330, 1385, 1386, 1387, 1361, 1362, 1363, 1364, 1365, 1366, 1367, 1368, 1369, 1370, 1371, 1372, 1373] (by decide +kernel) (by decide +kernel)
set_option maxRecDepth 20000 in
theorem gL_law_X10_undo : GoodIn wsL_law (wsV RL 67 RX10 yX10_undo wsX10_undo) := goodIn_app (goodIn_of _ (by decide +kernel)) ggL_law_X10_undo
set_option maxRecDepth 20000 in
theorem ggL_law_X11_undo : GoodIn wsL_law wsX11_undo := goodIn_r _ [664, 170, 152, 124, 128, 1331, 1332, 1333, 1334, 1335, 1336, 1337, 1338, 1339, 1340, 1341, 1342, 1343, 1344, 1345, 1346, 1347, 1348, 1349, 1350, 1351, 1352, 1353, 1354, 1355, 1356, 1357, 1358, 1359, 1360] (by decide +kernel) (by decide +kernel)
set_option maxRecDepth 20000 in
theorem gL_law_X11_undo : GoodIn wsL_law (wsV RL 70 RX11 yX11_undo wsX11_undo) := goodIn_app (goodIn_of _ (by decide +kernel)) ggL_law_X11_undo
set_option maxRecDepth 20000 in
theorem ggL_law_X10_count : GoodIn wsL_law wsX10_count := goodIn_r _ [668, 17, 453, 180, 462, 500, 669, 30, 656, 22, 157, 530, 306, 307, 2, 308, 670, 671, 672, 673, 674, 675, 676, 677, 678, 679, 680, 681, 682, 683, 561, 562, 16, 563, 62, 558, 559, 684, 591, 592, 593, 594, 595, 596, 685, 686, 687, 688, 38, 532, 538, 539, 540, 37, 541, 542, 543, 544, 545, 546, 547, 92, 93, 548, 549, 304, 305, 550, 551, 552, 553, 64, 554, 555, 556, 557, 63, 560, 564, 689, 690, 691, 692, 693, 694, 695, 696, 579, 580, 581, 582, 570, 697, 698, 699, 700, 571, 572, 573, 574, 94, 575, 576, 577, 578, 583, 584, 585, 586, 587, 588, 535, 589, 701, 702, 703, 704, 590, 705, 706, 707, 708, 194, 709, 710, 711, 712, 713, 714, 715, 716, 717, 718, 719, 720, 721, 722, 723, 724, 565, 566, 567, 568, 569, 597, 598, 599, 600, 95, 96, 601, 602, 603, 604, 1317, 1318, 1319, 1320, 1321, 1322, 1323, 1324, 1325, 1326, 1327, 1328, 1329, 1330, 1361, 1362, 1363, 1364, 1365, 1366, 1367, 1368, 1369, 1370, 1371, 1372, 1373, 1385, 1386, 1387, 1374, 1375, 1376, 1377, 1388, 1389, 1390, 1391, 1392, 1393] (by decide +kernel) (by decide +kernel)
set_option maxRecDepth 20000 in
theorem gL_law_X10_count : GoodIn wsL_law (wsV RL 71 RX10 yX10_count wsX10_count) := goodIn_app (goodIn_of _ (by decide +kernel)) ggL_law_X10_count
set_option maxRecDepth 20000 in
theorem ggL_law_X11_count : GoodIn wsL_law wsX11_count := goodIn_r _ [728, 170, 124, 617, 152, 626, 627, 628, 5, 629, 130, 630, 631, 632, 633, 522, 523, 524, 525, 443, 444, 445, 446, 634, 635, 636, 637, 638, 639, 640, 641, 642, 643, 644, 729, 730, 731, 732, 733, 734, 735, 736, 737, 738, 739, 740, 741, 742, 743, 744, 745, 746, 747, 748, 749, 750, 751, 752, 753, 754, 755, 756, 757, 758, 759, 760, 761, 762, 763, 764, 765, 766, 767, 768, 769, 770, 771, 772, 773, 774, 775, 622, 623, 624, 625, 133, 131, 132, 645, 646, 647, 648, 1331, 1332, 1333, 1334, 1335, 1336, 1337, 1338, 1339, 1340, 1341, 1342, 1343, 1344, 1345, 1346, 1347, 1348, 1349, 1350, 1351, 1352, 1353, 1354, 1355, 1356, 1357, 1358, 1359, 1360] (by decide +kernel) (by decide +kernel)
set_option maxRecDepth 20000 in
theorem gL_law_X11_count : GoodIn wsL_law (wsV RL 74 RX11 yX11_count wsX11_count) := goodIn_app (goodIn_of _ (by decide +kernel)) ggL_law_X11_count
set_option maxRecDepth 20000 in
theorem ggL_law_L_gapOf : GoodIn wsL_law wsL_gapOf := goodIn_ca (goodIn_r _ [779, 780, 781, 782, 783, 2, 784, 785, 786, 17, 787, 38, 788, 430, 431, 16, 432, 193, 306, 307, 308, 538, 539, 540, 37, 541, 542, 543, 544, 545, 546, 547, 92, 93, 548, 549, 304, 305, 550, 551, 552, 553, 62, 64, 554, 555, 556, 557, 63, 558, 559, 560, 561, 562, 563, 564, 789, 694, 695, 696, 579, 580, 581, 582, 570, 790, 791, 792, 793, 194, 794, 795, 796, 672, 797, 674, 683, 1317, 1318, 1319, 1320, 1321, 1322, 1323, 1324, 1325, 1326, 1327, 1328, 1329, 1330, 1361, 1362, 1363, 1364, 1365, 1366, 1367, 1368, 1369, 1370, 1371, 1372, 1373, 1388, 1389, 1390, 1391, 1392, 1393] (by decide +kernel) (by decide +kernel)) (goodIn_sub (fun _ h => List.mem_append_right _ h) (by decide +kernel))
set_option maxRecDepth 20000 in
theorem gL_law_L_gapOf : GoodIn wsL_law (va_wsS RL 75 yL_gapOf wsL_gapOf) := goodIn_app (goodIn_of _ (by decide +kernel)) ggL_law_L_gapOf
set_option maxRecDepth 20000 in
theorem ggL_law_X11_gapOf : GoodIn wsL_law wsX11_gapOf := goodIn_r _ [801, 170, 802, 803, 804, 5, 805, 124, 353, 354, 355, 626, 627, 628, 629, 130, 630, 631, 632, 633, 522, 523, 524, 525, 443, 444, 445, 446, 634, 635, 636, 637, 638, 639, 640, 641, 642, 643, 644, 748, 749, 750, 751, 752, 753, 754, 755, 806, 807, 808, 809, 810, 811, 812, 813, 1331, 1332, 1333, 1334, 1335, 1336, 1337, 1338, 1339, 1340, 1341, 1342, 1343, 1344, 1345, 1346, 1347, 1348, 1349, 1350, 1351, 1352, 1353, 1354, 1355, 1356, 1357, 1358, 1359, 1360] (by decide +kernel) (by decide +kernel)
set_option maxRecDepth 20000 in
theorem gL_law_X11_gapOf : GoodIn wsL_law (wsV RL 80 RX11 yX11_gapOf wsX11_gapOf) := goodIn_app (goodIn_of _ (by decide +kernel)) ggL_law_X11_gapOf
set_option maxRecDepth 20000 in
theorem ggL_law_X11_thrown : GoodIn wsL_law wsX11_thrown := goodIn_r _ [817, 170, 1331, 1332, 1333, 1334, 1335, 1336, 1337, 1338, 1339, 1340, 1341, 1342, 1343, 1344, 1345, 1346, 1347, 1348, 1349, 1350, 1351, 1352, 1353, 1354, 1355, 1356, 1357, 1358, 1359, 1360] (by decide +kernel) (by decide +kernel)
set_option maxRecDepth 20000 in
theorem gL_law_X11_thrown : GoodIn wsL_law (wsV RL 81 RX11 yX11_thrown wsX11_thrown) := goodIn_app (goodIn_of _ (by decide +kernel)) ggL_law_X11_thrown
set_option maxRecDepth 20000 in
theorem ggL_law_L_targetOf : GoodIn wsL_law wsL_targetOf := goodIn_ca (goodIn_r _ [820, 780, 821, 822, 823, 2, 824, 785, 786, 17, 825, 826, 827, 38, 475, 476, 477, 16, 478, 194, 306, 307, 308, 828, 555, 556, 557, 63, 829, 830, 831, 832, 193, 61, 794, 551, 552, 553, 62, 64, 554, 558, 559, 560, 561, 562, 563, 833, 680, 672, 681, 678, 682, 683, 538, 539, 540, 37, 541, 542, 543, 544, 545, 546, 547, 92, 93, 548, 549, 304, 305, 550, 564, 834, 714, 715, 716, 570, 717, 718, 719, 720, 721, 722, 723, 724, 579, 580, 581, 582, 590, 591, 592, 593, 594, 595, 596, 1317, 1318, 1319, 1320, 1321, 1322, 1323, 1324, 1325, 1326, 1327, 1328, 1329, 1330, 1361, 1362, 1363, 1364, 1365, 1366, 1367, 1368, 1369, 1370, 1371, 1372, 1373, 1388, 1389, 1390, 1391, 1392, 1393] (by decide +kernel) (by decide +kernel)) (goodIn_sub (fun _ h => List.mem_append_right _ h) (by decide +kernel))
set_option maxRecDepth 20000 in
theorem gL_law_L_targetOf : GoodIn wsL_law (va_wsS RL 84 yL_targetOf wsL_targetOf) := goodIn_app (goodIn_of _ (by decide +kernel)) ggL_law_L_targetOf
set_option maxRecDepth 20000 in
theorem ggL_law_X11_targetOf : GoodIn wsL_law wsX11_targetOf := goodIn_r _ [838, 170, 124, 488, 489, 490, 5, 491, 353, 354, 355, 626, 627, 628, 629, 130, 630, 631, 632, 633, 522, 523, 524, 525, 443, 444, 445, 446, 634, 635, 636, 637, 638, 639, 640, 641, 642, 643, 644, 839, 840, 841, 842, 737, 738, 739, 740, 760, 761, 762, 763, 764, 765, 766, 767, 752, 753, 754, 755, 741, 742, 743, 1331, 1332, 1333, 1334, 1335, 1336, 1337, 1338, 1339, 1340, 1341, 1342, 1343, 1344, 1345, 1346, 1347, 1348, 1349, 1350, 1351, 1352, 1353, 1354, 1355, 1356, 1357, 1358, 1359, 1360] (by decide +kernel) (by decide +kernel)
set_option maxRecDepth 20000 in
theorem gL_law_X11_targetOf : GoodIn wsL_law (wsV RL 86 RX11 yX11_targetOf wsX11_targetOf) := goodIn_app (goodIn_of _ (by decide +kernel)) ggL_law_X11_targetOf
set_option maxRecDepth 20000 in
theorem ggL_law_X10_blind : GoodIn wsL_law wsX10_blind := goodIn_r _ [846, 17, 463, 464, 2, 465, 306, 307, 308, 833, 680, 672, 681, 678, 682, 683, 561, 562, 16, 563, 62, 558, 559, 1317, 1318, 1319, 1320, 1321, 1322, 1323, 1324, 1325, 1326, 1327, 1328, 1329, 1330, 1361, 1362, 1363, 1364, 1365, 1366, 1367, 1368, 1369, 1370, 1371, 1372, 1373] (by decide +kernel) (by decide +kernel)
set_option maxRecDepth 20000 in
theorem gL_law_X10_blind : GoodIn wsL_law (wsV RL 87 RX10 yX10_blind wsX10_blind) := goodIn_app (goodIn_of _ (by decide +kernel)) ggL_law_X10_blind
set_option maxRecDepth 20000 in
theorem ggL_law_X11_blind : GoodIn wsL_law wsX11_blind := goodIn_r _ [850, 170, 353, 354, 5, 355, 737, 738, 739, 740, 124, 443, 444, 445, 446, 638, 639, 640, 641, 642, 643, 644, 1331, 1332, 1333, 1334, 1335, 1336, 1337, 1338, 1339, 1340, 1341, 1342, 1343, 1344, 1345, 1346, 1347, 1348, 1349, 1350, 1351, 1352, 1353, 1354, 1355, 1356, 1357, 1358, 1359, 1360] (by decide +kernel) (by decide +kernel)
set_option maxRecDepth 20000 in
theorem gL_law_X11_blind : GoodIn wsL_law (wsV RL 90 RX11 yX11_blind wsX11_blind) := goodIn_app (goodIn_of _ (by decide +kernel)) ggL_law_X11_blind
set_option maxRecDepth 20000 in
theorem ggL_law_X10_doppler : GoodIn wsL_law wsX10_doppler := goodIn_r _ [854, 17, 787, 453, 463, 464, 2, 465, 306, 307, 308, 788, 430, 431, 16, 432, 193, 855, 558, 559, 1317, 1318, 1319, 1320, 1321, 1322, 1323, 1324, 1325, 1326, 1327, 1328, 1329, 1330, 1361, 1362, 1363, 1364, 1365, 1366, 1367, 1368, 1369, 1370, 1371, 1372, 1373] (by decide +kernel) (by decide +kernel)
set_option maxRecDepth 20000 in
theorem gL_law_X10_doppler : GoodIn wsL_law (wsV RL 91 RX10 yX10_doppler wsX10_doppler) := goodIn_app (goodIn_of _ (by decide +kernel)) ggL_law_X10_doppler
set_option maxRecDepth 20000 in
theorem ggL_law_X11_doppler : GoodIn wsL_law wsX11_doppler := goodIn_r _ [859, 170, 124, 353, 354, 5, 355, 802, 803, 804, 805, 443, 444, 445, 446, 642, 643, 644, 1331, 1332, 1333, 1334, 1335, 1336, 1337, 1338, 1339, 1340, 1341, 1342, 1343, 1344, 1345, 1346, 1347, 1348, 1349, 1350, 1351, 1352, 1353, 1354, 1355, 1356, 1357, 1358, 1359, 1360] (by decide +kernel) (by decide +kernel)
set_option maxRecDepth 20000 in
theorem gL_law_X11_doppler : GoodIn wsL_law (wsV RL 94 RX11 yX11_doppler wsX11_doppler) := goodIn_app (goodIn_of _ (by decide +kernel)) ggL_law_X11_doppler
set_option maxRecDepth 20000 in
theorem ggL_law_X10_dark : GoodIn wsL_law wsX10_dark := goodIn_r _ [863, 17, 864, 865, 672, 866, 674, 675, 676, 677, 678, 679, 680, 681, 682, 683, 561, 562, 16, 563, 62, 558, 2, 559, 684, 591, 592, 593, 594, 595, 596, 1317, 1318, 1319, 1320, 1321, 1322, 1323, 1324, 1325, 1326, 1327, 1328, 1329, 1330, 1361, 1362, 1363, 1364, 1365, 1366, 1367, 1368, 1369, 1370, 1371, 1372, 1373] (by decide +kernel) (by decide +kernel)
set_option maxRecDepth 20000 in
theorem gL_law_X10_dark : GoodIn wsL_law (wsV RL 95 RX10 yX10_dark wsX10_dark) := goodIn_app (goodIn_of _ (by decide +kernel)) ggL_law_X10_dark
set_option maxRecDepth 20000 in
theorem ggL_law_X11_dark : GoodIn wsL_law wsX11_dark := goodIn_r _ [870, 170, 124, 733, 734, 735, 5, 736, 737, 738, 739, 740, 443, 444, 445, 446, 638, 639, 640, 641, 642, 643, 644, 741, 742, 743, 1331, 1332, 1333, 1334, 1335, 1336, 1337, 1338, 1339, 1340, 1341, 1342, 1343, 1344, 1345, 1346, 1347, 1348, 1349, 1350, 1351, 1352, 1353, 1354, 1355, 1356, 1357, 1358, 1359, 1360] (by decide +kernel) (by decide +kernel)
set_option maxRecDepth 20000 in
theorem gL_law_X11_dark : GoodIn wsL_law (wsV RL 98 RX11 yX11_dark wsX11_dark) := goodIn_app (goodIn_of _ (by decide +kernel)) ggL_law_X11_dark
set_option maxRecDepth 20000 in
theorem ggL_law_X10_period : GoodIn wsL_law wsX10_period := goodIn_r _ [874, 17, 875, 876, 672, 877, 674, 678, 682, 878, 2, 879, 1317, 1318, 1319, 1320, 1321, 1322, 1323, 1324, 1325, 1326, 1327, 1328, 1329, 1330, 1361, 1362, 1363, 1364, 1365, 1366, 1367, 1368, 1369, 1370, 1371, 1372, 1373] (by decide +kernel) (by decide +kernel)
set_option maxRecDepth 20000 in
theorem gL_law_X10_period : GoodIn wsL_law (wsV RL 99 RX10 yX10_period wsX10_period) := goodIn_app (goodIn_of _ (by decide +kernel)) ggL_law_X10_period
set_option maxRecDepth 20000 in
theorem ggL_law_X11_period : GoodIn wsL_law wsX11_period := goodIn_r _ [883, 170, 124, 443, 444, 445, 5, 446, 1331, 1332, 1333, 1334, 1335, 1336, 1337, 1338, 1339, 1340, 1341, 1342, 1343, 1344, 1345, 1346, 1347, 1348, 1349, 1350, 1351, 1352, 1353, 1354, 1355, 1356, 1357, 1358, 1359, 1360] (by decide +kernel) (by decide +kernel)
set_option maxRecDepth 20000 in
theorem gL_law_X11_period : GoodIn wsL_law (wsV RL 102 RX11 yX11_period wsX11_period) := goodIn_app (goodIn_of _ (by decide +kernel)) ggL_law_X11_period
set_option maxRecDepth 20000 in
theorem ggL_law_X10_reach : GoodIn wsL_law wsX10_reach := goodIn_r _ [887, 17, 180, 888, 787, 306, 307, 2, 308, 889, 890, 891, 892, 878, 879, 1317, 1318, 1319, 1320, 1321, 1322, 1323, 1324, 1325, 1326, 1327, 1328, 1329, 1330, 1361, 1362, 1363, 1364, 1365, 1366, 1367, 1368, 1369, 1370, 1371, 1372, 1373] (by decide +kernel) (by decide +kernel)
set_option maxRecDepth 20000 in
theorem gL_law_X10_reach : GoodIn wsL_law (wsV RL 103 RX10 yX10_reach wsX10_reach) := goodIn_app (goodIn_of _ (by decide +kernel)) ggL_law_X10_reach
set_option maxRecDepth 20000 in
theorem ggL_law_X11_reach : GoodIn wsL_law wsX11_reach := goodIn_r _ [896, 170, 124, 897, 353, 354, 5, 355, 898, 899, 900, 901, 443, 444, 445, 446, 902, 903, 904, 1331, 1332, 1333, 1334, 1335, 1336, 1337, 1338, 1339, 1340, 1341, 1342, 1343, 1344, 1345, 1346, 1347, 1348, 1349, 1350, 1351, 1352, 1353, 1354, 1355, 1356, 1357, 1358, 1359, 1360] (by decide +kernel) (by decide +kernel)
set_option maxRecDepth 20000 in
theorem gL_law_X11_reach : GoodIn wsL_law (wsV RL 106 RX11 yX11_reach wsX11_reach) := goodIn_app (goodIn_of _ (by decide +kernel)) ggL_law_X11_reach
set_option maxRecDepth 20000 in
theorem ggL_law_X10_joined : GoodIn wsL_law wsX10_joined := goodIn_r _ [908, 56, 17, 180, 787, 909, 910, 2, 911, 889, 890, 891, 892, 878, 879, 1317, 1318, 1319, 1320, 1321, 1322, 1323, 1324, 1325, 1326, 1327, 1328, 1329, 1330, 1361, 1362, 1363, 1364, 1365, 1366, 1367, 1368, 1369, 1370, 1371, 1372, 1373] (by decide +kernel) (by decide +kernel)
set_option maxRecDepth 20000 in
theorem gL_law_X10_joined : GoodIn wsL_law (wsV RL 107 RX10 yX10_joined wsX10_joined) := goodIn_app (goodIn_of _ (by decide +kernel)) ggL_law_X10_joined
set_option maxRecDepth 20000 in
theorem ggL_law_X11_joined : GoodIn wsL_law wsX11_joined := goodIn_r _ [915, 170, 134, 124, 443, 444, 445, 5, 446, 902, 903, 904, 1331, 1332, 1333, 1334, 1335, 1336, 1337, 1338, 1339, 1340, 1341, 1342, 1343, 1344, 1345, 1346, 1347, 1348, 1349, 1350, 1351, 1352, 1353, 1354, 1355, 1356, 1357, 1358, 1359, 1360] (by decide +kernel) (by decide +kernel)
set_option maxRecDepth 20000 in
theorem gL_law_X11_joined : GoodIn wsL_law (wsV RL 111 RX11 yX11_joined wsX11_joined) := goodIn_app (goodIn_of _ (by decide +kernel)) ggL_law_X11_joined
set_option maxRecDepth 20000 in
theorem ggL_law_X10_at : GoodIn wsL_law wsX10_at := goodIn_r _ [919, 17, 787, 38, 788, 430, 431, 16, 432, 193, 306, 307, 2, 308, 538, 539, 540, 37, 541, 542, 543, 544, 545, 546, 547, 92, 93, 548, 549, 304, 305, 550, 551, 552, 553, 62, 64, 554, 555, 556, 557, 63, 558, 559, 560, 561, 562, 563, 564, 920, 921, 922, 923, 924, 925, 926, 927, 1317, 1318, 1319, 1320, 1321, 1322, 1323, 1324, 1325, 1326, 1327, 1328, 1329, 1330, 1361, 1362, 1363, 1364, 1365, 1366, 1367, 1368, 1369, 1370, 1371, 1372, 1373, 1388, 1389, 1390, 1391, 1392, 1393] (by decide +kernel) (by decide +kernel)
set_option maxRecDepth 20000 in
theorem gL_law_X10_at : GoodIn wsL_law (wsV RL 112 RX10 yX10_at wsX10_at) := goodIn_app (goodIn_of _ (by decide +kernel)) ggL_law_X10_at
set_option maxRecDepth 20000 in
theorem ggL_law_X11_at : GoodIn wsL_law wsX11_at := goodIn_r _ [931, 170, 124, 802, 803, 804, 5, 805, 353, 354, 355, 443, 444, 445, 446, 634, 635, 636, 637, 522, 523, 524, 525, 638, 639, 640, 641, 642, 643, 644, 630, 631, 632, 633, 1331, 1332, 1333, 1334, 1335, 1336, 1337, 1338, 1339, 1340, 1341, 1342, 1343, 1344, 1345, 1346, 1347, 1348, 1349, 1350, 1351, 1352, 1353, 1354, 1355, 1356, 1357, 1358, 1359, 1360] (by decide +kernel) (by decide +kernel)
set_option maxRecDepth 20000 in
theorem gL_law_X11_at : GoodIn wsL_law (wsV RL 116 RX11 yX11_at wsX11_at) := goodIn_app (goodIn_of _ (by decide +kernel)) ggL_law_X11_at
set_option maxRecDepth 20000 in
theorem ggL_law_X10_hits : GoodIn wsL_law wsX10_hits := goodIn_r _ [935, 38, 17, 306, 307, 2, 308, 538, 539, 540, 37, 541, 542, 543, 544, 545, 546, 547, 92, 93, 548, 549, 304, 305, 550, 551, 552, 16, 553, 62, 64, 554, 555, 556, 557, 63, 558, 559, 560, 561, 562, 563, 564, 936, 722, 723, 724, 579, 580, 581, 582, 570, 1317, 1318, 1319, 1320, 1321, 1322, 1323, 1324, 1325, 1326, 1327, 1328, 1329, 1330, 1361, 1362, 1363, 1364, 1365, 1366, 1367, 1368, 1369, 1370, 1371, 1372, 1373, 1388, 1389, 1390, 1391, 1392, 1393] (by decide +kernel) (by decide +kernel)
set_option maxRecDepth 20000 in
theorem gL_law_X10_hits : GoodIn wsL_law (wsV RL 117 RX10 yX10_hits wsX10_hits) := goodIn_app (goodIn_of _ (by decide +kernel)) ggL_law_X10_hits
set_option maxRecDepth 20000 in
theorem ggL_law_X11_hits : GoodIn wsL_law wsX11_hits := goodIn_r _ [940, 170, 353, 354, 5, 355, 626, 627, 628, 629, 130, 124, 630, 631, 632, 633, 522, 523, 524, 525, 443, 444, 445, 446, 634, 635, 636, 637, 638, 639, 640, 641, 642, 643, 644, 764, 765, 766, 767, 752, 753, 754, 755, 1331, 1332, 1333, 1334, 1335, 1336, 1337, 1338, 1339, 1340, 1341, 1342, 1343, 1344, 1345, 1346, 1347, 1348, 1349, 1350, 1351, 1352, 1353, 1354, 1355, 1356, 1357, 1358, 1359, 1360] (by decide +kernel) (by decide +kernel)
set_option maxRecDepth 20000 in
theorem gL_law_X11_hits : GoodIn wsL_law (wsV RL 120 RX11 yX11_hits wsX11_hits) := goodIn_app (goodIn_of _ (by decide +kernel)) ggL_law_X11_hits
set_option maxRecDepth 20000 in
theorem ggL_law_X10_found : GoodIn wsL_law wsX10_found := goodIn_r _ [944, 38, 17, 538, 539, 540, 37, 541, 542, 543, 544, 545, 546, 547, 92, 93, 548, 549, 307, 2, 308, 304, 305, 306, 550, 551, 552, 16, 553, 62, 64, 554, 555, 556, 557, 63, 558, 559, 560, 561, 562, 563, 564, 945, 946, 947, 948, 570, 571, 572, 573, 574, 94, 575, 576, 577, 578, 579, 580, 581, 582, 583, 584, 585, 586, 587, 588, 535, 589, 701, 702, 703, 704, 590, 591, 592, 593, 594, 595, 596, 705, 706, 707, 708, 194, 1317, 1318, 1319, 1320, 1321, 1322, 1323, 1324, 1325, 1326, 1327, 1328, 1329, 1330, 1361, 1362, 1363, 1364, 1365, 1366, 1367, 1368, 1369, 1370, 1371, 1372, 1373, 1388, 1389, 1390, 1391, 1392, 1393] (by decide +kernel) (by decide +kernel)
set_option maxRecDepth 20000 in
theorem gL_law_X10_found : GoodIn wsL_law (wsV RL 121 RX10 yX10_found wsX10_found) := goodIn_app (goodIn_of _ (by decide +kernel)) ggL_law_X10_found
set_option maxRecDepth 20000 in
theorem ggL_law_X11_found : GoodIn wsL_law wsX11_found := goodIn_r _ [952, 170, 124, 626, 627, 628, 5, 629, 130, 630, 631, 632, 633, 522, 523, 524, 525, 443, 444, 445, 446, 634, 635, 636, 637, 638, 639, 640, 641, 642, 643, 644, 760, 761, 762, 763, 764, 765, 766, 767, 752, 753, 754, 755, 741, 742, 743, 768, 769, 770, 771, 1331, 1332, 1333, 1334, 1335, 1336, 1337, 1338, 1339, 1340, 1341, 1342, 1343, 1344, 1345, 1346, 1347, 1348, 1349, 1350, 1351, 1352, 1353, 1354, 1355, 1356, 1357, 1358, 1359, 1360] (by decide +kernel) (by decide +kernel)
set_option maxRecDepth 20000 in
theorem gL_law_X11_found : GoodIn wsL_law (wsV RL 124 RX11 yX11_found wsX11_found) := goodIn_app (goodIn_of _ (by decide +kernel)) ggL_law_X11_found
set_option maxRecDepth 20000 in
theorem ggL_law_X10_makers : GoodIn wsL_law wsX10_makers := goodIn_r _ [956, 38, 17, 306, 307, 2, 308, 538, 539, 540, 37, 541, 542, 543, 544, 545, 546, 547, 92, 93, 548, 549, 304, 305, 550, 551, 552, 16, 553, 62, 64, 554, 555, 556, 557, 63, 558, 559, 560, 561, 562, 563, 564, 957, 958, 959, 960, 579, 580, 581, 582, 570, 961, 925, 926, 927, 1317, 1318, 1319, 1320, 1321, 1322, 1323, 1324, 1325, 1326, 1327, 1328, 1329, 1330, 1361, 1362, 1363, 1364, 1365, 1366, 1367, 1368, 1369, 1370, 1371, 1372, 1373, 1388, 1389, 1390, 1391, 1392, 1393] (by decide +kernel) (by decide +kernel)
set_option maxRecDepth 20000 in
theorem gL_law_X10_makers : GoodIn wsL_law (wsV RL 125 RX10 yX10_makers wsX10_makers) := goodIn_app (goodIn_of _ (by decide +kernel)) ggL_law_X10_makers
set_option maxRecDepth 20000 in
theorem ggL_law_X11_makers : GoodIn wsL_law wsX11_makers := goodIn_r _ [965, 170, 124, 353, 354, 5, 355, 626, 627, 628, 629, 130, 630, 631, 632, 633, 522, 523, 524, 525, 443, 444, 445, 446, 634, 635, 636, 637, 638, 639, 640, 641, 642, 643, 644, 752, 753, 754, 755, 1331, 1332, 1333, 1334, 1335, 1336, 1337, 1338, 1339, 1340, 1341, 1342, 1343, 1344, 1345, 1346, 1347, 1348, 1349, 1350, 1351, 1352, 1353, 1354, 1355, 1356, 1357, 1358, 1359, 1360] (by decide +kernel) (by decide +kernel)
set_option maxRecDepth 20000 in
theorem gL_law_X11_makers : GoodIn wsL_law (wsV RL 128 RX11 yX11_makers wsX11_makers) := goodIn_app (goodIn_of _ (by decide +kernel)) ggL_law_X11_makers
set_option maxRecDepth 20000 in
theorem ggL_law_X10_picture : GoodIn wsL_law wsX10_picture := goodIn_r _ [969, 38, 17, 532, 970, 537, 538, 539, 540, 37, 541, 542, 543, 544, 545, 546, 547, 92, 93, 548, 549, 307, 2, 308, 304, 305, 306, 550, 551, 552, 16, 553, 62, 64, 554, 555, 556, 557, 63, 558, 559, 560, 561, 562, 563, 564, 565, 566, 567, 568, 569, 570, 94, 571, 572, 573, 574, 575, 576, 577, 578, 579, 580, 581, 582, 583, 584, 585, 586, 587, 588, 535, 589, 590, 591, 592, 593, 594, 595, 596, 597, 598, 599, 600, 95, 96, 601, 602, 603, 604, 1317, 1318, 1319, 1320, 1321, 1322, 1323, 1324, 1325, 1326, 1327, 1328, 1329, 1330, 1388, 1389, 1390, 1391, 1392, 1393, 1361, 1362, 1363, 1364, 1365, 1366, 1367, 1368, 1369, 1370, 1371, 1372, 1373] (by decide +kernel) (by decide +kernel)
set_option maxRecDepth 20000 in
theorem gL_law_X10_picture : GoodIn wsL_law (wsV RL 129 RX10 yX10_picture wsX10_picture) := goodIn_app (goodIn_of _ (by decide +kernel)) ggL_law_X10_picture
set_option maxRecDepth 20000 in
theorem ggL_law_X11_picture : GoodIn wsL_law wsX11_picture := goodIn_r _ [974, 170, 617, 132, 131, 622, 623, 624, 5, 625, 133, 130, 124, 626, 627, 628, 629, 630, 631, 632, 633, 522, 523, 524, 525, 443, 444, 445, 446, 634, 635, 636, 637, 638, 639, 640, 641, 642, 643, 644, 645, 646, 647, 648, 353, 354, 355, 1331, 1332, 1333, 1334, 1335, 1336, 1337, 1338, 1339, 1340, 1341, 1342, 1343, 1344, 1345, 1346, 1347, 1348, 1349, 1350, 1351, 1352, 1353, 1354, 1355, 1356, 1357, 1358, 1359, 1360] (by decide +kernel) (by decide +kernel)
set_option maxRecDepth 20000 in
theorem gL_law_X11_picture : GoodIn wsL_law (wsV RL 132 RX11 yX11_picture wsX11_picture) := goodIn_app (goodIn_of _ (by decide +kernel)) ggL_law_X11_picture
set_option maxRecDepth 20000 in
theorem ggL_law_X10_pairs : GoodIn wsL_law wsX10_pairs := goodIn_r _ [978, 38, 17, 306, 307, 2, 308, 538, 539, 540, 37, 541, 542, 543, 544, 545, 546, 547, 92, 93, 548, 549, 304, 305, 550, 551, 552, 16, 553, 62, 64, 554, 555, 556, 557, 63, 558, 559, 560, 561, 562, 563, 564, 979, 980, 981, 982, 693, 694, 695, 696, 579, 580, 581, 582, 570, 983, 984, 985, 986, 94, 571, 572, 573, 574, 575, 576, 577, 578, 583, 584, 585, 586, 587, 588, 535, 589, 890, 891, 892, 878, 879, 705, 706, 707, 708, 194, 1317, 1318, 1319, 1320, 1321, 1322, 1323, 1324, 1325, 1326, 1327, 1328, 1329, 1330, 1361, 1362, 1363, 1364, 1365, 1366, 1367, 1368, 1369, 1370, 1371, 1372, 1373, 1388, 1389, 1390, 1391, 1392, 1393] (by decide +kernel) (by decide +kernel)
set_option maxRecDepth 20000 in
theorem gL_law_X10_pairs : GoodIn wsL_law (wsV RL 133 RX10 yX10_pairs wsX10_pairs) := goodIn_app (goodIn_of _ (by decide +kernel)) ggL_law_X10_pairs
set_option maxRecDepth 20000 in
theorem ggL_law_X11_pairs : GoodIn wsL_law wsX11_pairs := goodIn_r _ [990, 170, 124, 353, 354, 5, 355, 626, 627, 628, 629, 130, 630, 631, 632, 633, 522, 523, 524, 525, 443, 444, 445, 446, 634, 635, 636, 637, 638, 639, 640, 641, 642, 643, 644, 748, 749, 750, 751, 752, 753, 754, 755, 898, 899, 900, 901, 902, 903, 904, 764, 765, 766, 767, 768, 769, 770, 771, 1331, 1332, 1333, 1334, 1335, 1336, 1337, 1338, 1339, 1340, 1341, 1342, 1343, 1344, 1345, 1346, 1347, 1348, 1349, 1350, 1351, 1352, 1353, 1354, 1355, 1356, 1357, 1358, 1359, 1360] (by decide +kernel) (by decide +kernel)
set_option maxRecDepth 20000 in
theorem gL_law_X11_pairs : GoodIn wsL_law (wsV RL 136 RX11 yX11_pairs wsX11_pairs) := goodIn_app (goodIn_of _ (by decide +kernel)) ggL_law_X11_pairs
set_option maxRecDepth 20000 in
theorem ggL_law_X10_track : GoodIn wsL_law wsX10_track := goodIn_r _ [994, 42, 17, 995, 530, 996, 997, 998, 41, 999, 1000, 1001, 1002, 1003, 1004, 1005, 1006, 1007, 101, 1008, 1009, 1010, 1011, 100, 1012, 1013, 1014, 1015, 1016, 1017, 1018, 1019, 1020, 1021, 1022, 1023, 1024, 1025, 591, 592, 593, 594, 595, 596, 1026, 1027, 1028, 306, 307, 2, 308, 1029, 1030, 1031, 1032, 1033, 1034, 1035, 1036, 1037, 1038, 1317, 1318, 1319, 1320, 1321, 1322, 1323, 1324, 1325, 1326, 1327, 1328, 1329, 1330, 1361, 1362, 1363, 1364, 1365, 1366, 1367, 1368, 1369, 1370, 1371, 1372, 1373, 1394, 1395, 1396] (by decide +kernel) (by decide +kernel)
set_option maxRecDepth 20000 in
theorem gL_law_X10_track : GoodIn wsL_law (wsV RL 137 RX10 yX10_track wsX10_track) := goodIn_app (goodIn_of _ (by decide +kernel)) ggL_law_X10_track
set_option maxRecDepth 20000 in
theorem ggL_law_X11_track : GoodIn wsL_law wsX11_track := goodIn_r _ [1042, 170, 124, 135, 1043, 353, 354, 5, 355, 618, 619, 620, 621, 1044, 1045, 1046, 1047, 1048, 1049, 1050, 1051, 1052, 1053, 1054, 1055, 1331, 1332, 1333, 1334, 1335, 1336, 1337, 1338, 1339, 1340, 1341, 1342, 1343, 1344, 1345, 1346, 1347, 1348, 1349, 1350, 1351, 1352, 1353, 1354, 1355, 1356, 1357, 1358, 1359, 1360] (by decide +kernel) (by decide +kernel)
set_option maxRecDepth 20000 in
theorem gL_law_X11_track : GoodIn wsL_law (wsV RL 140 RX11 yX11_track wsX11_track) := goodIn_app (goodIn_of _ (by decide +kernel)) ggL_law_X11_track
set_option maxRecDepth 20000 in
theorem ggL_law_X10_order : GoodIn wsL_law wsX10_order := goodIn_r _ [1059, 17, 180, 46, 1060, 1061, 306, 307, 2, 308, 1062, 1063, 1064, 45, 1065, 1066, 1067, 105, 107, 1068, 70, 71, 72, 1069, 1070, 1071, 1072, 1073, 1074, 1075, 1076, 1077, 1078, 1079, 1080, 106, 1081, 558, 559, 1082, 1083, 1084, 1085, 1086, 1087, 1088, 555, 556, 16, 557, 63, 1089, 1090, 1091, 1092, 1093, 588, 535, 589, 1094, 1095, 1096, 1097, 1098, 1099, 1100, 1101, 1317, 1318, 1319, 1320, 1321, 1322, 1323, 1324, 1325, 1326, 1327, 1328, 1329, 1330, 1361, 1362, 1363, 1364, 1365, 1366, 1367, 1368, 1369, 1370, 1371, 1372, 1373, 1397, 1398, 1399, 1400, 1401, 1402] (by decide +kernel) (by decide +kernel)
set_option maxRecDepth 20000 in
theorem gL_law_X10_order : GoodIn wsL_law (wsV RL 141 RX10 yX10_order wsX10_order) := goodIn_app (goodIn_of _ (by decide +kernel)) ggL_law_X10_order
set_option maxRecDepth 20000 in
theorem ggL_law_X11_order : GoodIn wsL_law wsX11_order := goodIn_r _ [1105, 170, 124, 138, 137, 353, 354, 5, 355, 1106, 1107, 1108, 1109, 1110, 1111, 1112, 1113, 1114, 136, 1115, 443, 444, 445, 446, 1116, 1117, 1118, 1119, 630, 631, 632, 633, 522, 523, 524, 525, 1120, 1121, 1122, 1123, 1124, 1125, 1126, 1127, 1331, 1332, 1333, 1334, 1335, 1336, 1337, 1338, 1339, 1340, 1341, 1342, 1343, 1344, 1345, 1346, 1347, 1348, 1349, 1350, 1351, 1352, 1353, 1354, 1355, 1356, 1357, 1358, 1359, 1360] (by decide +kernel) (by decide +kernel)
set_option maxRecDepth 20000 in
theorem gL_law_X11_order : GoodIn wsL_law (wsV RL 144 RX11 yX11_order wsX11_order) := goodIn_app (goodIn_of _ (by decide +kernel)) ggL_law_X11_order
set_option maxRecDepth 20000 in
theorem ggL_law_X10_choose : GoodIn wsL_law wsX10_choose := goodIn_r _ [1131, 50, 17, 1132, 1133, 1134, 306, 307, 2, 308, 433, 304, 305, 1135, 1136, 1137, 49, 1138, 1139, 1140, 1141, 534, 535, 536, 1142, 1143, 1144, 1145, 1146, 1147, 1148, 1149, 112, 113, 1150, 70, 71, 72, 1151, 1152, 1153, 1154, 111, 1155, 1156, 577, 1157, 1158, 561, 562, 16, 563, 62, 558, 559, 1159, 1160, 1161, 1162, 1163, 1164, 1165, 114, 890, 891, 892, 878, 879, 1166, 1167, 1168, 1169, 1170, 1171, 1172, 1173, 1174, 1175, 1176, 1177, 115, 1317, 1318, 1319, 1320, 1321, 1322, 1323, 1324, 1325, 1326, 1327, 1328, 1329, 1330, 1403, 1404, 1405, 1406, 1407, 1408, 1409, 1410, 1411, 1412, 1413, 1414, 1415, 1361, 1362, 1363, 1364, 1365, 1366, 1367, 1368, 1369, 1370, 1371, 1372, 1373] (by decide +kernel) (by decide +kernel)
set_option maxRecDepth 20000 in
theorem gL_law_X10_choose : GoodIn wsL_law (wsV RL 145 RX10 yX10_choose wsX10_choose) := goodIn_app (goodIn_of _ (by decide +kernel)) ggL_law_X10_choose
set_option maxRecDepth 20000 in
theorem ggL_law_X11_choose : GoodIn wsL_law wsX11_choose := goodIn_r _ [1181, 170, 139, 140, 353, 354, 5, 355, 649, 650, 651, 1182, 1183, 1184, 1185, 124, 902, 903, 904, 638, 639, 640, 641, 642, 643, 644, 1186, 1187, 1188, 1189, 1331, 1332, 1333, 1334, 1335, 1336, 1337, 1338, 1339, 1340, 1341, 1342, 1343, 1344, 1345, 1346, 1347, 1348, 1349, 1350, 1351, 1352, 1353, 1354, 1355, 1356, 1357, 1358, 1359, 1360] (by decide +kernel) (by decide +kernel)
set_option maxRecDepth 20000 in
theorem gL_law_X11_choose : GoodIn wsL_law (wsV RL 149 RX11 yX11_choose wsX11_choose) := goodIn_app (goodIn_of _ (by decide +kernel)) ggL_law_X11_choose
set_option maxRecDepth 20000 in
theorem ggL_law_X10_more : GoodIn wsL_law wsX10_more := goodIn_r _ [1193, 17, 180, 38, 54, 538, 539, 540, 37, 541, 542, 543, 544, 545, 546, 547, 92, 93, 548, 549, 307, 2, 308, 304, 305, 306, 550, 551, 552, 16, 553, 62, 64, 554, 555, 556, 557, 63, 558, 559, 560, 561, 562, 563, 564, 1194, 1195, 1196, 53, 1197, 1198, 119, 1199, 572, 573, 574, 94, 575, 576, 577, 578, 579, 580, 581, 582, 570, 583, 584, 585, 586, 587, 588, 535, 589, 1200, 1201, 1202, 1203, 1204, 1205, 1206, 1207, 1208, 590, 591, 592, 593, 594, 595, 596, 705, 706, 707, 708, 194, 1209, 1210, 1211, 1212, 1213, 1214, 1215, 676, 672, 677, 678, 679, 680, 681, 682, 683, 684, 1216, 1217, 1218, 1219, 1220, 1221, 310, 311, 312, 193, 61, 1317, 1318, 1319, 1320, 1321, 1322, 1323, 1324, 1325, 1326, 1327, 1328, 1329, 1330, 1361, 1362, 1363, 1364, 1365, 1366, 1367, 1368, 1369, 1370, 1371, 1372, 1373, 1388, 1389, 1390, 1391, 1392, 1393, 1416] (by decide +kernel) (by decide +kernel)
set_option maxRecDepth 20000 in
theorem gL_law_X10_more : GoodIn wsL_law (wsV RL 150 RX10 yX10_more wsX10_more) := goodIn_app (goodIn_of _ (by decide +kernel)) ggL_law_X10_more
set_option maxRecDepth 20000 in
theorem ggL_law_X11_more : GoodIn wsL_law wsX11_more := goodIn_r _ [1225, 170, 124, 1226, 1227, 1228, 5, 1229, 380, 381, 382, 383, 384, 385, 626, 627, 628, 629, 130, 630, 631, 632, 633, 522, 523, 524, 525, 443, 444, 445, 446, 634, 635, 636, 637, 638, 639, 640, 641, 642, 643, 644, 756, 757, 758, 759, 760, 761, 762, 763, 764, 765, 766, 767, 752, 753, 754, 755, 741, 742, 743, 768, 769, 770, 771, 729, 730, 731, 732, 733, 734, 735, 736, 737, 738, 739, 740, 1331, 1332, 1333, 1334, 1335, 1336, 1337, 1338, 1339, 1340, 1341, 1342, 1343, 1344, 1345, 1346, 1347, 1348, 1349, 1350, 1351, 1352, 1353, 1354, 1355, 1356, 1357, 1358, 1359, 1360] (by decide +kernel) (by decide +kernel)
set_option maxRecDepth 20000 in
theorem gL_law_X11_more : GoodIn wsL_law (wsV RL 153 RX11 yX11_more wsX11_more) := goodIn_app (goodIn_of _ (by decide +kernel)) ggL_law_X11_more
set_option maxRecDepth 20000 in
theorem ggL_law_X10_shaken : GoodIn wsL_law wsX10_shaken := goodIn_r _ [1233, 17, 306, 307, 2, 308, 1234, 1235, 672, 1236, 674, 678, 682, 1237, 1238, 1239, 683, 561, 562, 16, 563, 62, 558, 559, 1317, 1318, 1319, 1320, 1321, 1322, 1323, 1324, 1325, 1326, 1327, 1328, 1329, 1330, 1361, 1362, 1363, 1364, 1365, 1366, 1367, 1368, 1369, 1370, 1371, 1372, 1373] (by decide +kernel) (by decide +kernel)
set_option maxRecDepth 20000 in
theorem gL_law_X10_shaken : GoodIn wsL_law (wsV RL 154 RX10 yX10_shaken wsX10_shaken) := goodIn_app (goodIn_of _ (by decide +kernel)) ggL_law_X10_shaken
set_option maxRecDepth 20000 in
theorem ggL_law_X11_shaken : GoodIn wsL_law wsX11_shaken := goodIn_r _ [1243, 170, 124, 353, 354, 5, 355, 443, 444, 445, 446, 638, 639, 640, 641, 642, 643, 644, 1331, 1332, 1333, 1334, 1335, 1336, 1337, 1338, 1339, 1340, 1341, 1342, 1343, 1344, 1345, 1346, 1347, 1348, 1349, 1350, 1351, 1352, 1353, 1354, 1355, 1356, 1357, 1358, 1359, 1360] (by decide +kernel) (by decide +kernel)
set_option maxRecDepth 20000 in
theorem gL_law_X11_shaken : GoodIn wsL_law (wsV RL 157 RX11 yX11_shaken wsX11_shaken) := goodIn_app (goodIn_of _ (by decide +kernel)) ggL_law_X11_shaken
set_option maxRecDepth 20000 in
theorem ggL_law_X10_dwell : GoodIn wsL_law wsX10_dwell := goodIn_r _ [1247, 17, 180, 46, 462, 1248, 306, 307, 2, 308, 1249, 1070, 1071, 45, 1072, 1073, 1074, 1075, 105, 1068, 70, 71, 72, 1250, 1077, 1078, 1079, 1080, 106, 1081, 558, 559, 1251, 1252, 1253, 1254, 1255, 1256, 1257, 1258, 1086, 1088, 555, 556, 16, 557, 63, 1259, 1083, 1084, 1085, 1087, 1089, 1090, 1091, 1092, 1093, 588, 535, 589, 1260, 1261, 1262, 1263, 1317, 1318, 1319, 1320, 1321, 1322, 1323, 1324, 1325, 1326, 1327, 1328, 1329, 1330, 1361, 1362, 1363, 1364, 1365, 1366, 1367, 1368, 1369, 1370, 1371, 1372, 1373, 1397, 1398, 1399, 1400, 1401, 1402] (by decide +kernel) (by decide +kernel)
set_option maxRecDepth 20000 in
theorem gL_law_X10_dwell : GoodIn wsL_law (wsV RL 158 RX10 yX10_dwell wsX10_dwell) := goodIn_app (goodIn_of _ (by decide +kernel)) ggL_law_X10_dwell
set_option maxRecDepth 20000 in
theorem ggL_law_X11_dwell : GoodIn wsL_law wsX11_dwell := goodIn_r _ [1267, 170, 124, 136, 353, 354, 5, 355, 1106, 1107, 1108, 1109, 137, 1110, 1111, 1112, 1113, 1114, 1115, 443, 444, 445, 446, 1268, 1269, 1270, 1116, 1117, 1118, 1119, 630, 631, 632, 633, 522, 523, 524, 525, 1120, 1121, 1122, 1123, 1331, 1332, 1333, 1334, 1335, 1336, 1337, 1338, 1339, 1340, 1341, 1342, 1343, 1344, 1345, 1346, 1347, 1348, 1349, 1350, 1351, 1352, 1353, 1354, 1355, 1356, 1357, 1358, 1359, 1360] (by decide +kernel) (by decide +kernel)
set_option maxRecDepth 20000 in
theorem gL_law_X11_dwell : GoodIn wsL_law (wsV RL 161 RX11 yX11_dwell wsX11_dwell) := goodIn_app (goodIn_of _ (by decide +kernel)) ggL_law_X11_dwell
set_option maxRecDepth 20000 in
theorem ggL_law_X10_until : GoodIn wsL_law wsX10_until := goodIn_r _ [1274, 17, 475, 476, 477, 16, 478, 194, 306, 307, 2, 308, 1275, 1276, 1277, 1278, 506, 62, 193, 61, 507, 508, 509, 510, 63, 64, 558, 559, 1279, 1280, 1281, 1282, 65, 560, 561, 562, 563, 1317, 1318, 1319, 1320, 1321, 1322, 1323, 1324, 1325, 1326, 1327, 1328, 1329, 1330, 1361, 1362, 1363, 1364, 1365, 1366, 1367, 1368, 1369, 1370, 1371, 1372, 1373] (by decide +kernel) (by decide +kernel)
set_option maxRecDepth 20000 in
theorem gL_law_X10_until : GoodIn wsL_law (wsV RL 162 RX10 yX10_until wsX10_until) := goodIn_app (goodIn_of _ (by decide +kernel)) ggL_law_X10_until
set_option maxRecDepth 20000 in
theorem ggL_law_X11_until : GoodIn wsL_law wsX11_until := goodIn_r _ [1286, 170, 488, 489, 490, 5, 491, 124, 353, 354, 355, 1226, 1227, 1228, 1229, 1287, 1288, 1289, 1290, 521, 522, 523, 524, 525, 517, 518, 519, 520, 492, 493, 494, 495, 626, 627, 628, 629, 130, 630, 631, 632, 633, 443, 444, 445, 446, 634, 635, 636, 637, 638, 639, 640, 641, 642, 643, 644, 760, 761, 762, 763, 764, 765, 766, 767, 752, 753, 754, 755, 741, 742, 743, 1331, 1332, 1333, 1334, 1335, 1336, 1337, 1338, 1339, 1340, 1341, 1342, 1343, 1344, 1345, 1346, 1347, 1348, 1349, 1350, 1351, 1352, 1353, 1354, 1355, 1356, 1357, 1358, 1359, 1360] (by decide +kernel) (by decide +kernel)
set_option maxRecDepth 20000 in
theorem gL_law_X11_until : GoodIn wsL_law (wsV RL 165 RX11 yX11_until wsX11_until) := goodIn_app (goodIn_of _ (by decide +kernel)) ggL_law_X11_until
set_option maxRecDepth 20000 in
theorem ggL_law_X10_image : GoodIn wsL_law wsX10_image := goodIn_r _ [1294, 31, 17, 32, 22, 34, 306, 307, 2, 308, 326, 327, 328, 16, 329, 61, 69, 70, 71, 72, 62, 63, 64, 65, 66, 67, 68, 193, 194, 195, 196, 197, 1295, 1296, 1297, 21, 1298, 76, 1299, 165, 1300, 77, 1317, 1318, 1319, 1320, 1321, 1322, 1323, 1324, 1325, 1326, 1327, 1328, 1329, 1330, 1361, 1362, 1363, 1364, 1365, 1366, 1367, 1368, 1369, 1370, 1371, 1372, 1373, 1374, 1375, 1376, 1377] (by decide +kernel) (by decide +kernel)
set_option maxRecDepth 20000 in
theorem gL_law_X10_image : GoodIn wsL_law (wsV RL 166 RX10 yX10_image wsX10_image) := goodIn_app (goodIn_of _ (by decide +kernel)) ggL_law_X10_image
set_option maxRecDepth 20000 in
theorem ggL_law_X11_image : GoodIn wsL_law wsX11_image := goodIn_r _ [1304, 170, 127, 353, 354, 5, 355, 1305, 1306, 1307, 1308, 126, 1226, 1227, 1228, 1229, 124, 1331, 1332, 1333, 1334, 1335, 1336, 1337, 1338, 1339, 1340, 1341, 1342, 1343, 1344, 1345, 1346, 1347, 1348, 1349, 1350, 1351, 1352, 1353, 1354, 1355, 1356, 1357, 1358, 1359, 1360] (by decide +kernel) (by decide +kernel)
set_option maxRecDepth 20000 in
theorem gL_law_X11_image : GoodIn wsL_law (wsV RL 170 RX11 yX11_image wsX11_image) := goodIn_app (goodIn_of _ (by decide +kernel)) ggL_law_X11_image
set_option maxRecDepth 20000 in
theorem ggL_law_X10_again : GoodIn wsL_law wsX10_again := goodIn_r _ [1312, 34, 17, 31, 22, 32, 30, 306, 307, 2, 308, 326, 327, 328, 16, 329, 61, 69, 70, 71, 72, 62, 63, 64, 65, 66, 67, 68, 193, 194, 195, 196, 197, 1295, 1296, 1297, 21, 1298, 76, 1299, 165, 1300, 77, 330, 331, 332, 29, 333, 334, 1317, 1318, 1319, 1320, 1321, 1322, 1323, 1324, 1325, 1326, 1327, 1328, 1329, 1330, 1361, 1362, 1363, 1364, 1365, 1366, 1367, 1368, 1369, 1370, 1371, 1372, 1373, 1374, 1375, 1376, 1377, 1385, 1386, 1387] (by decide +kernel) (by decide +kernel)
set_option maxRecDepth 20000 in
theorem gL_law_X10_again : GoodIn wsL_law (wsV RL 171 RX10 yX10_again wsX10_again) := goodIn_app (goodIn_of _ (by decide +kernel)) ggL_law_X10_again
set_option maxRecDepth 20000 in
theorem ggL_law_X11_again : GoodIn wsL_law wsX11_again := goodIn_r _ [1316, 170, 127, 152, 353, 354, 5, 355, 1305, 1306, 1307, 1308, 126, 1226, 1227, 1228, 1229, 124, 1331, 1332, 1333, 1334, 1335, 1336, 1337, 1338, 1339, 1340, 1341, 1342, 1343, 1344, 1345, 1346, 1347, 1348, 1349, 1350, 1351, 1352, 1353, 1354, 1355, 1356, 1357, 1358, 1359, 1360] (by decide +kernel) (by decide +kernel)
set_option maxRecDepth 20000 in
theorem gL_law_X11_again : GoodIn wsL_law (wsV RL 174 RX11 yX11_again wsX11_again) := goodIn_app (goodIn_of _ (by decide +kernel)) ggL_law_X11_again
theorem dL_law_0 : decode cL_law 0 = .ok (.new 8, 3) := by decide +kernel
theorem dL_law_3 : decode cL_law 3 = .ok (.dup, 1) := by decide +kernel
theorem dL_law_4 : decode cL_law 4 = .ok (.invokespecial 18, 3) := by decide +kernel
theorem dL_law_7 : decode cL_law 7 = .ok (.astore_n 1, 1) := by decide +kernel
theorem dL_law_8 : decode cL_law 8 = .ok (.new 19, 3) := by decide +kernel
theorem dL_law_11 : decode cL_law 11 = .ok (.dup, 1) := by decide +kernel
theorem dL_law_12 : decode cL_law 12 = .ok (.invokespecial 21, 3) := by decide +kernel
theorem dL_law_15 : decode cL_law 15 = .ok (.astore_n 2, 1) := by decide +kernel
theorem dL_law_16 : decode cL_law 16 = .ok (.iconst 1, 1) := by decide +kernel
theorem dL_law_17 : decode cL_law 17 = .ok (.newarray .long, 2) := by decide +kernel
theorem dL_law_19 : decode cL_law 19 = .ok (.astore_n 3, 1) := by decide +kernel
theorem dL_law_20 : decode cL_law 20 = .ok (.iconst 0, 1) := by decide +kernel
theorem dL_law_21 : decode cL_law 21 = .ok (.istore 4, 2) := by decide +kernel
theorem dL_law_23 : decode cL_law 23 = .ok (.iload 4, 2) := by decide +kernel
theorem dL_law_25 : decode cL_law 25 = .ok (.aload_n 0, 1) := by decide +kernel
theorem dL_law_26 : decode cL_law 26 = .ok (.arraylength, 1) := by decide +kernel
theorem dL_law_27 : decode cL_law 27 = .ok (.bipush 6, 2) := by decide +kernel
theorem dL_law_29 : decode cL_law 29 = .ok (.isub, 1) := by decide +kernel
theorem dL_law_30 : decode cL_law 30 = .ok (.if_icmp .gt 1488, 3) := by decide +kernel
theorem dL_law_33 : decode cL_law 33 = .ok (.aload_n 0, 1) := by decide +kernel
theorem dL_law_34 : decode cL_law 34 = .ok (.iload 4, 2) := by decide +kernel
theorem dL_law_36 : decode cL_law 36 = .ok (.iaload, 1) := by decide +kernel
theorem dL_law_37 : decode cL_law 37 = .ok (.bipush 63, 2) := by decide +kernel
theorem dL_law_39 : decode cL_law 39 = .ok (.iand, 1) := by decide +kernel
theorem dL_law_40 : decode cL_law 40 = .ok (.tableswitch 1472 0 33 #[152, 209, 222, 263, 316, 353, 402, 427, 452, 465, 478, 503, 571, 639, 664, 701, 726, 739, 776, 849, 914, 939, 992, 1017, 1070, 1095, 1132, 1169, 1230, 1271, 1324, 1385, 1422, 1447], 152) := by decide +kernel
theorem dL_law_192 : decode cL_law 192 = .ok (.aload_n 1, 1) := by decide +kernel
theorem dL_law_193 : decode cL_law 193 = .ok (.aload_n 0, 1) := by decide +kernel
theorem dL_law_194 : decode cL_law 194 = .ok (.iload 4, 2) := by decide +kernel
theorem dL_law_196 : decode cL_law 196 = .ok (.iconst 1, 1) := by decide +kernel
theorem dL_law_197 : decode cL_law 197 = .ok (.iadd, 1) := by decide +kernel
theorem dL_law_198 : decode cL_law 198 = .ok (.iaload, 1) := by decide +kernel
theorem dL_law_199 : decode cL_law 199 = .ok (.i2l, 1) := by decide +kernel
theorem dL_law_200 : decode cL_law 200 = .ok (.bipush 32, 2) := by decide +kernel
theorem dL_law_202 : decode cL_law 202 = .ok (.lshl, 1) := by decide +kernel
theorem dL_law_203 : decode cL_law 203 = .ok (.aload_n 0, 1) := by decide +kernel
theorem dL_law_204 : decode cL_law 204 = .ok (.iload 4, 2) := by decide +kernel
theorem dL_law_206 : decode cL_law 206 = .ok (.iconst 2, 1) := by decide +kernel
theorem dL_law_207 : decode cL_law 207 = .ok (.iadd, 1) := by decide +kernel
theorem dL_law_208 : decode cL_law 208 = .ok (.iaload, 1) := by decide +kernel
theorem dL_law_209 : decode cL_law 209 = .ok (.i2l, 1) := by decide +kernel
theorem dL_law_210 : decode cL_law 210 = .ok (.ldc2_w 22, 3) := by decide +kernel
theorem dL_law_213 : decode cL_law 213 = .ok (.land, 1) := by decide +kernel
theorem dL_law_214 : decode cL_law 214 = .ok (.lor, 1) := by decide +kernel
theorem dL_law_215 : decode cL_law 215 = .ok (.invokevirtual 24, 3) := by decide +kernel
theorem dL_law_218 : decode cL_law 218 = .ok (.aload_n 2, 1) := by decide +kernel
theorem dL_law_219 : decode cL_law 219 = .ok (.aload_n 0, 1) := by decide +kernel
theorem dL_law_220 : decode cL_law 220 = .ok (.iload 4, 2) := by decide +kernel
theorem dL_law_222 : decode cL_law 222 = .ok (.iconst 1, 1) := by decide +kernel
theorem dL_law_223 : decode cL_law 223 = .ok (.iadd, 1) := by decide +kernel
theorem dL_law_224 : decode cL_law 224 = .ok (.iaload, 1) := by decide +kernel
theorem dL_law_225 : decode cL_law 225 = .ok (.i2l, 1) := by decide +kernel
theorem dL_law_226 : decode cL_law 226 = .ok (.bipush 32, 2) := by decide +kernel
theorem dL_law_228 : decode cL_law 228 = .ok (.lshl, 1) := by decide +kernel
theorem dL_law_229 : decode cL_law 229 = .ok (.aload_n 0, 1) := by decide +kernel
theorem dL_law_230 : decode cL_law 230 = .ok (.iload 4, 2) := by decide +kernel
theorem dL_law_232 : decode cL_law 232 = .ok (.iconst 2, 1) := by decide +kernel
theorem dL_law_233 : decode cL_law 233 = .ok (.iadd, 1) := by decide +kernel
theorem dL_law_234 : decode cL_law 234 = .ok (.iaload, 1) := by decide +kernel
theorem dL_law_235 : decode cL_law 235 = .ok (.i2l, 1) := by decide +kernel
theorem dL_law_236 : decode cL_law 236 = .ok (.ldc2_w 22, 3) := by decide +kernel
theorem dL_law_239 : decode cL_law 239 = .ok (.land, 1) := by decide +kernel
theorem dL_law_240 : decode cL_law 240 = .ok (.lor, 1) := by decide +kernel
theorem dL_law_241 : decode cL_law 241 = .ok (.invokevirtual 28, 3) := by decide +kernel
theorem dL_law_244 : decode cL_law 244 = .ok (.if_icmp .eq 1268, 3) := by decide +kernel
theorem dL_law_247 : decode cL_law 247 = .ok (.iconst 0, 1) := by decide +kernel
theorem dL_law_248 : decode cL_law 248 = .ok (.ireturn, 1) := by decide +kernel
theorem dL_law_249 : decode cL_law 249 = .ok (.aload_n 1, 1) := by decide +kernel
theorem dL_law_250 : decode cL_law 250 = .ok (.invokevirtual 29, 3) := by decide +kernel
theorem dL_law_253 : decode cL_law 253 = .ok (.aload_n 2, 1) := by decide +kernel
theorem dL_law_254 : decode cL_law 254 = .ok (.invokevirtual 33, 3) := by decide +kernel
theorem dL_law_257 : decode cL_law 257 = .ok (.if_icmp .eq 1255, 3) := by decide +kernel
theorem dL_law_260 : decode cL_law 260 = .ok (.iconst 0, 1) := by decide +kernel
theorem dL_law_261 : decode cL_law 261 = .ok (.ireturn, 1) := by decide +kernel
theorem dL_law_262 : decode cL_law 262 = .ok (.aload_n 1, 1) := by decide +kernel
theorem dL_law_263 : decode cL_law 263 = .ok (.aload_n 0, 1) := by decide +kernel
theorem dL_law_264 : decode cL_law 264 = .ok (.iload 4, 2) := by decide +kernel
theorem dL_law_266 : decode cL_law 266 = .ok (.iconst 1, 1) := by decide +kernel
theorem dL_law_267 : decode cL_law 267 = .ok (.iadd, 1) := by decide +kernel
theorem dL_law_268 : decode cL_law 268 = .ok (.iaload, 1) := by decide +kernel
theorem dL_law_269 : decode cL_law 269 = .ok (.ifCond .eq 7, 3) := by decide +kernel
theorem dL_law_272 : decode cL_law 272 = .ok (.iconst 1, 1) := by decide +kernel
theorem dL_law_273 : decode cL_law 273 = .ok (.goto 4, 3) := by decide +kernel
theorem dL_law_276 : decode cL_law 276 = .ok (.iconst 0, 1) := by decide +kernel
theorem dL_law_277 : decode cL_law 277 = .ok (.invokevirtual 34, 3) := by decide +kernel
theorem dL_law_280 : decode cL_law 280 = .ok (.aload_n 2, 1) := by decide +kernel
theorem dL_law_281 : decode cL_law 281 = .ok (.aload_n 0, 1) := by decide +kernel
theorem dL_law_282 : decode cL_law 282 = .ok (.iload 4, 2) := by decide +kernel
theorem dL_law_284 : decode cL_law 284 = .ok (.iconst 1, 1) := by decide +kernel
theorem dL_law_285 : decode cL_law 285 = .ok (.iadd, 1) := by decide +kernel
theorem dL_law_286 : decode cL_law 286 = .ok (.iaload, 1) := by decide +kernel
theorem dL_law_287 : decode cL_law 287 = .ok (.ifCond .eq 7, 3) := by decide +kernel
theorem dL_law_290 : decode cL_law 290 = .ok (.iconst 1, 1) := by decide +kernel
theorem dL_law_291 : decode cL_law 291 = .ok (.goto 4, 3) := by decide +kernel
theorem dL_law_294 : decode cL_law 294 = .ok (.iconst 0, 1) := by decide +kernel
theorem dL_law_295 : decode cL_law 295 = .ok (.invokevirtual 38, 3) := by decide +kernel
theorem dL_law_298 : decode cL_law 298 = .ok (.if_icmp .eq 1214, 3) := by decide +kernel
theorem dL_law_301 : decode cL_law 301 = .ok (.iconst 0, 1) := by decide +kernel
theorem dL_law_302 : decode cL_law 302 = .ok (.ireturn, 1) := by decide +kernel
theorem dL_law_303 : decode cL_law 303 = .ok (.aload_n 1, 1) := by decide +kernel
theorem dL_law_304 : decode cL_law 304 = .ok (.aload_n 0, 1) := by decide +kernel
theorem dL_law_305 : decode cL_law 305 = .ok (.iload 4, 2) := by decide +kernel
theorem dL_law_307 : decode cL_law 307 = .ok (.iconst 1, 1) := by decide +kernel
theorem dL_law_308 : decode cL_law 308 = .ok (.iadd, 1) := by decide +kernel
theorem dL_law_309 : decode cL_law 309 = .ok (.iaload, 1) := by decide +kernel
theorem dL_law_310 : decode cL_law 310 = .ok (.aload_n 0, 1) := by decide +kernel
theorem dL_law_311 : decode cL_law 311 = .ok (.iload 4, 2) := by decide +kernel
theorem dL_law_313 : decode cL_law 313 = .ok (.iconst 2, 1) := by decide +kernel
theorem dL_law_314 : decode cL_law 314 = .ok (.iadd, 1) := by decide +kernel
theorem dL_law_315 : decode cL_law 315 = .ok (.iaload, 1) := by decide +kernel
theorem dL_law_316 : decode cL_law 316 = .ok (.ifCond .eq 7, 3) := by decide +kernel
theorem dL_law_319 : decode cL_law 319 = .ok (.iconst 1, 1) := by decide +kernel
theorem dL_law_320 : decode cL_law 320 = .ok (.goto 4, 3) := by decide +kernel
theorem dL_law_323 : decode cL_law 323 = .ok (.iconst 0, 1) := by decide +kernel
theorem dL_law_324 : decode cL_law 324 = .ok (.invokevirtual 39, 3) := by decide +kernel
theorem dL_law_327 : decode cL_law 327 = .ok (.aload_n 2, 1) := by decide +kernel
theorem dL_law_328 : decode cL_law 328 = .ok (.aload_n 0, 1) := by decide +kernel
theorem dL_law_329 : decode cL_law 329 = .ok (.iload 4, 2) := by decide +kernel
theorem dL_law_331 : decode cL_law 331 = .ok (.iconst 1, 1) := by decide +kernel
theorem dL_law_332 : decode cL_law 332 = .ok (.iadd, 1) := by decide +kernel
theorem dL_law_333 : decode cL_law 333 = .ok (.iaload, 1) := by decide +kernel
theorem dL_law_334 : decode cL_law 334 = .ok (.aload_n 0, 1) := by decide +kernel
theorem dL_law_335 : decode cL_law 335 = .ok (.iload 4, 2) := by decide +kernel
theorem dL_law_337 : decode cL_law 337 = .ok (.iconst 2, 1) := by decide +kernel
theorem dL_law_338 : decode cL_law 338 = .ok (.iadd, 1) := by decide +kernel
theorem dL_law_339 : decode cL_law 339 = .ok (.iaload, 1) := by decide +kernel
theorem dL_law_340 : decode cL_law 340 = .ok (.ifCond .eq 7, 3) := by decide +kernel
theorem dL_law_343 : decode cL_law 343 = .ok (.iconst 1, 1) := by decide +kernel
theorem dL_law_344 : decode cL_law 344 = .ok (.goto 4, 3) := by decide +kernel
theorem dL_law_347 : decode cL_law 347 = .ok (.iconst 0, 1) := by decide +kernel
theorem dL_law_348 : decode cL_law 348 = .ok (.invokevirtual 43, 3) := by decide +kernel
theorem dL_law_351 : decode cL_law 351 = .ok (.if_icmp .eq 1161, 3) := by decide +kernel
theorem dL_law_354 : decode cL_law 354 = .ok (.iconst 0, 1) := by decide +kernel
theorem dL_law_355 : decode cL_law 355 = .ok (.ireturn, 1) := by decide +kernel
theorem dL_law_356 : decode cL_law 356 = .ok (.aload_n 1, 1) := by decide +kernel
theorem dL_law_357 : decode cL_law 357 = .ok (.aload_n 0, 1) := by decide +kernel
theorem dL_law_358 : decode cL_law 358 = .ok (.iload 4, 2) := by decide +kernel
theorem dL_law_360 : decode cL_law 360 = .ok (.iconst 1, 1) := by decide +kernel
theorem dL_law_361 : decode cL_law 361 = .ok (.iadd, 1) := by decide +kernel
theorem dL_law_362 : decode cL_law 362 = .ok (.iaload, 1) := by decide +kernel
theorem dL_law_363 : decode cL_law 363 = .ok (.aload_n 0, 1) := by decide +kernel
theorem dL_law_364 : decode cL_law 364 = .ok (.iload 4, 2) := by decide +kernel
theorem dL_law_366 : decode cL_law 366 = .ok (.iconst 2, 1) := by decide +kernel
theorem dL_law_367 : decode cL_law 367 = .ok (.iadd, 1) := by decide +kernel
theorem dL_law_368 : decode cL_law 368 = .ok (.iaload, 1) := by decide +kernel
theorem dL_law_369 : decode cL_law 369 = .ok (.invokevirtual 44, 3) := by decide +kernel
theorem dL_law_372 : decode cL_law 372 = .ok (.aload_n 2, 1) := by decide +kernel
theorem dL_law_373 : decode cL_law 373 = .ok (.aload_n 0, 1) := by decide +kernel
theorem dL_law_374 : decode cL_law 374 = .ok (.iload 4, 2) := by decide +kernel
theorem dL_law_376 : decode cL_law 376 = .ok (.iconst 1, 1) := by decide +kernel
theorem dL_law_377 : decode cL_law 377 = .ok (.iadd, 1) := by decide +kernel
theorem dL_law_378 : decode cL_law 378 = .ok (.iaload, 1) := by decide +kernel
theorem dL_law_379 : decode cL_law 379 = .ok (.aload_n 0, 1) := by decide +kernel
theorem dL_law_380 : decode cL_law 380 = .ok (.iload 4, 2) := by decide +kernel
theorem dL_law_382 : decode cL_law 382 = .ok (.iconst 2, 1) := by decide +kernel
theorem dL_law_383 : decode cL_law 383 = .ok (.iadd, 1) := by decide +kernel
theorem dL_law_384 : decode cL_law 384 = .ok (.iaload, 1) := by decide +kernel
theorem dL_law_385 : decode cL_law 385 = .ok (.invokevirtual 48, 3) := by decide +kernel
theorem dL_law_388 : decode cL_law 388 = .ok (.if_icmp .eq 1124, 3) := by decide +kernel
theorem dL_law_391 : decode cL_law 391 = .ok (.iconst 0, 1) := by decide +kernel
theorem dL_law_392 : decode cL_law 392 = .ok (.ireturn, 1) := by decide +kernel
theorem dL_law_393 : decode cL_law 393 = .ok (.aload_n 1, 1) := by decide +kernel
theorem dL_law_394 : decode cL_law 394 = .ok (.aload_n 0, 1) := by decide +kernel
theorem dL_law_395 : decode cL_law 395 = .ok (.iload 4, 2) := by decide +kernel
theorem dL_law_397 : decode cL_law 397 = .ok (.iconst 1, 1) := by decide +kernel
theorem dL_law_398 : decode cL_law 398 = .ok (.iadd, 1) := by decide +kernel
theorem dL_law_399 : decode cL_law 399 = .ok (.iaload, 1) := by decide +kernel
theorem dL_law_400 : decode cL_law 400 = .ok (.aload_n 0, 1) := by decide +kernel
theorem dL_law_401 : decode cL_law 401 = .ok (.iload 4, 2) := by decide +kernel
theorem dL_law_403 : decode cL_law 403 = .ok (.iconst 2, 1) := by decide +kernel
theorem dL_law_404 : decode cL_law 404 = .ok (.iadd, 1) := by decide +kernel
theorem dL_law_405 : decode cL_law 405 = .ok (.iaload, 1) := by decide +kernel
theorem dL_law_406 : decode cL_law 406 = .ok (.aload_n 0, 1) := by decide +kernel
theorem dL_law_407 : decode cL_law 407 = .ok (.iload 4, 2) := by decide +kernel
theorem dL_law_409 : decode cL_law 409 = .ok (.iconst 3, 1) := by decide +kernel
theorem dL_law_410 : decode cL_law 410 = .ok (.iadd, 1) := by decide +kernel
theorem dL_law_411 : decode cL_law 411 = .ok (.iaload, 1) := by decide +kernel
theorem dL_law_412 : decode cL_law 412 = .ok (.invokevirtual 49, 3) := by decide +kernel
theorem dL_law_415 : decode cL_law 415 = .ok (.aload_n 2, 1) := by decide +kernel
theorem dL_law_416 : decode cL_law 416 = .ok (.aload_n 0, 1) := by decide +kernel
theorem dL_law_417 : decode cL_law 417 = .ok (.iload 4, 2) := by decide +kernel
theorem dL_law_419 : decode cL_law 419 = .ok (.iconst 1, 1) := by decide +kernel
theorem dL_law_420 : decode cL_law 420 = .ok (.iadd, 1) := by decide +kernel
theorem dL_law_421 : decode cL_law 421 = .ok (.iaload, 1) := by decide +kernel
theorem dL_law_422 : decode cL_law 422 = .ok (.aload_n 0, 1) := by decide +kernel
theorem dL_law_423 : decode cL_law 423 = .ok (.iload 4, 2) := by decide +kernel
theorem dL_law_425 : decode cL_law 425 = .ok (.iconst 2, 1) := by decide +kernel
theorem dL_law_426 : decode cL_law 426 = .ok (.iadd, 1) := by decide +kernel
theorem dL_law_427 : decode cL_law 427 = .ok (.iaload, 1) := by decide +kernel
theorem dL_law_428 : decode cL_law 428 = .ok (.aload_n 0, 1) := by decide +kernel
theorem dL_law_429 : decode cL_law 429 = .ok (.iload 4, 2) := by decide +kernel
theorem dL_law_431 : decode cL_law 431 = .ok (.iconst 3, 1) := by decide +kernel
theorem dL_law_432 : decode cL_law 432 = .ok (.iadd, 1) := by decide +kernel
theorem dL_law_433 : decode cL_law 433 = .ok (.iaload, 1) := by decide +kernel
theorem dL_law_434 : decode cL_law 434 = .ok (.invokevirtual 53, 3) := by decide +kernel
theorem dL_law_437 : decode cL_law 437 = .ok (.if_icmp .eq 1075, 3) := by decide +kernel
theorem dL_law_440 : decode cL_law 440 = .ok (.iconst 0, 1) := by decide +kernel
theorem dL_law_441 : decode cL_law 441 = .ok (.ireturn, 1) := by decide +kernel
theorem dL_law_442 : decode cL_law 442 = .ok (.aload_n 1, 1) := by decide +kernel
theorem dL_law_443 : decode cL_law 443 = .ok (.aload_n 0, 1) := by decide +kernel
theorem dL_law_444 : decode cL_law 444 = .ok (.iload 4, 2) := by decide +kernel
theorem dL_law_446 : decode cL_law 446 = .ok (.iconst 1, 1) := by decide +kernel
theorem dL_law_447 : decode cL_law 447 = .ok (.iadd, 1) := by decide +kernel
theorem dL_law_448 : decode cL_law 448 = .ok (.iaload, 1) := by decide +kernel
theorem dL_law_449 : decode cL_law 449 = .ok (.invokevirtual 54, 3) := by decide +kernel
theorem dL_law_452 : decode cL_law 452 = .ok (.aload_n 2, 1) := by decide +kernel
theorem dL_law_453 : decode cL_law 453 = .ok (.aload_n 0, 1) := by decide +kernel
theorem dL_law_454 : decode cL_law 454 = .ok (.iload 4, 2) := by decide +kernel
theorem dL_law_456 : decode cL_law 456 = .ok (.iconst 1, 1) := by decide +kernel
theorem dL_law_457 : decode cL_law 457 = .ok (.iadd, 1) := by decide +kernel
theorem dL_law_458 : decode cL_law 458 = .ok (.iaload, 1) := by decide +kernel
theorem dL_law_459 : decode cL_law 459 = .ok (.invokevirtual 58, 3) := by decide +kernel
theorem dL_law_462 : decode cL_law 462 = .ok (.if_icmp .eq 1050, 3) := by decide +kernel
theorem dL_law_465 : decode cL_law 465 = .ok (.iconst 0, 1) := by decide +kernel
theorem dL_law_466 : decode cL_law 466 = .ok (.ireturn, 1) := by decide +kernel
theorem dL_law_467 : decode cL_law 467 = .ok (.aload_n 1, 1) := by decide +kernel
theorem dL_law_468 : decode cL_law 468 = .ok (.aload_n 0, 1) := by decide +kernel
theorem dL_law_469 : decode cL_law 469 = .ok (.iload 4, 2) := by decide +kernel
theorem dL_law_471 : decode cL_law 471 = .ok (.iconst 1, 1) := by decide +kernel
theorem dL_law_472 : decode cL_law 472 = .ok (.iadd, 1) := by decide +kernel
theorem dL_law_473 : decode cL_law 473 = .ok (.iaload, 1) := by decide +kernel
theorem dL_law_474 : decode cL_law 474 = .ok (.invokevirtual 59, 3) := by decide +kernel
theorem dL_law_477 : decode cL_law 477 = .ok (.aload_n 2, 1) := by decide +kernel
theorem dL_law_478 : decode cL_law 478 = .ok (.aload_n 0, 1) := by decide +kernel
theorem dL_law_479 : decode cL_law 479 = .ok (.iload 4, 2) := by decide +kernel
theorem dL_law_481 : decode cL_law 481 = .ok (.iconst 1, 1) := by decide +kernel
theorem dL_law_482 : decode cL_law 482 = .ok (.iadd, 1) := by decide +kernel
theorem dL_law_483 : decode cL_law 483 = .ok (.iaload, 1) := by decide +kernel
theorem dL_law_484 : decode cL_law 484 = .ok (.invokevirtual 62, 3) := by decide +kernel
theorem dL_law_487 : decode cL_law 487 = .ok (.if_icmp .eq 1025, 3) := by decide +kernel
theorem dL_law_490 : decode cL_law 490 = .ok (.iconst 0, 1) := by decide +kernel
theorem dL_law_491 : decode cL_law 491 = .ok (.ireturn, 1) := by decide +kernel
theorem dL_law_492 : decode cL_law 492 = .ok (.aload_n 1, 1) := by decide +kernel
theorem dL_law_493 : decode cL_law 493 = .ok (.invokevirtual 63, 3) := by decide +kernel
theorem dL_law_496 : decode cL_law 496 = .ok (.aload_n 2, 1) := by decide +kernel
theorem dL_law_497 : decode cL_law 497 = .ok (.invokevirtual 66, 3) := by decide +kernel
theorem dL_law_500 : decode cL_law 500 = .ok (.if_icmp .eq 1012, 3) := by decide +kernel
theorem dL_law_503 : decode cL_law 503 = .ok (.iconst 0, 1) := by decide +kernel
theorem dL_law_504 : decode cL_law 504 = .ok (.ireturn, 1) := by decide +kernel
theorem dL_law_505 : decode cL_law 505 = .ok (.aload_n 1, 1) := by decide +kernel
theorem dL_law_506 : decode cL_law 506 = .ok (.invokevirtual 67, 3) := by decide +kernel
theorem dL_law_509 : decode cL_law 509 = .ok (.aload_n 2, 1) := by decide +kernel
theorem dL_law_510 : decode cL_law 510 = .ok (.invokevirtual 70, 3) := by decide +kernel
theorem dL_law_513 : decode cL_law 513 = .ok (.if_icmp .eq 999, 3) := by decide +kernel
theorem dL_law_516 : decode cL_law 516 = .ok (.iconst 0, 1) := by decide +kernel
theorem dL_law_517 : decode cL_law 517 = .ok (.ireturn, 1) := by decide +kernel
theorem dL_law_518 : decode cL_law 518 = .ok (.aload_n 1, 1) := by decide +kernel
theorem dL_law_519 : decode cL_law 519 = .ok (.aload_n 0, 1) := by decide +kernel
theorem dL_law_520 : decode cL_law 520 = .ok (.iload 4, 2) := by decide +kernel
theorem dL_law_522 : decode cL_law 522 = .ok (.iconst 1, 1) := by decide +kernel
theorem dL_law_523 : decode cL_law 523 = .ok (.iadd, 1) := by decide +kernel
theorem dL_law_524 : decode cL_law 524 = .ok (.iaload, 1) := by decide +kernel
theorem dL_law_525 : decode cL_law 525 = .ok (.invokevirtual 71, 3) := by decide +kernel
theorem dL_law_528 : decode cL_law 528 = .ok (.aload_n 2, 1) := by decide +kernel
theorem dL_law_529 : decode cL_law 529 = .ok (.aload_n 0, 1) := by decide +kernel
theorem dL_law_530 : decode cL_law 530 = .ok (.iload 4, 2) := by decide +kernel
theorem dL_law_532 : decode cL_law 532 = .ok (.iconst 1, 1) := by decide +kernel
theorem dL_law_533 : decode cL_law 533 = .ok (.iadd, 1) := by decide +kernel
theorem dL_law_534 : decode cL_law 534 = .ok (.iaload, 1) := by decide +kernel
theorem dL_law_535 : decode cL_law 535 = .ok (.invokevirtual 74, 3) := by decide +kernel
theorem dL_law_538 : decode cL_law 538 = .ok (.if_icmp .eq 974, 3) := by decide +kernel
theorem dL_law_541 : decode cL_law 541 = .ok (.iconst 0, 1) := by decide +kernel
theorem dL_law_542 : decode cL_law 542 = .ok (.ireturn, 1) := by decide +kernel
theorem dL_law_543 : decode cL_law 543 = .ok (.aload_n 1, 1) := by decide +kernel
theorem dL_law_544 : decode cL_law 544 = .ok (.aload_n 0, 1) := by decide +kernel
theorem dL_law_545 : decode cL_law 545 = .ok (.iload 4, 2) := by decide +kernel
theorem dL_law_547 : decode cL_law 547 = .ok (.iconst 1, 1) := by decide +kernel
theorem dL_law_548 : decode cL_law 548 = .ok (.iadd, 1) := by decide +kernel
theorem dL_law_549 : decode cL_law 549 = .ok (.iaload, 1) := by decide +kernel
theorem dL_law_550 : decode cL_law 550 = .ok (.aload_n 0, 1) := by decide +kernel
theorem dL_law_551 : decode cL_law 551 = .ok (.iload 4, 2) := by decide +kernel
theorem dL_law_553 : decode cL_law 553 = .ok (.iconst 2, 1) := by decide +kernel
theorem dL_law_554 : decode cL_law 554 = .ok (.iadd, 1) := by decide +kernel
theorem dL_law_555 : decode cL_law 555 = .ok (.iaload, 1) := by decide +kernel
theorem dL_law_556 : decode cL_law 556 = .ok (.aload_n 3, 1) := by decide +kernel
theorem dL_law_557 : decode cL_law 557 = .ok (.invokestatic 75, 3) := by decide +kernel
theorem dL_law_560 : decode cL_law 560 = .ok (.istore 5, 2) := by decide +kernel
theorem dL_law_562 : decode cL_law 562 = .ok (.aload_n 2, 1) := by decide +kernel
theorem dL_law_563 : decode cL_law 563 = .ok (.aload_n 0, 1) := by decide +kernel
theorem dL_law_564 : decode cL_law 564 = .ok (.iload 4, 2) := by decide +kernel
theorem dL_law_566 : decode cL_law 566 = .ok (.iconst 1, 1) := by decide +kernel
theorem dL_law_567 : decode cL_law 567 = .ok (.iadd, 1) := by decide +kernel
theorem dL_law_568 : decode cL_law 568 = .ok (.iaload, 1) := by decide +kernel
theorem dL_law_569 : decode cL_law 569 = .ok (.aload_n 0, 1) := by decide +kernel
theorem dL_law_570 : decode cL_law 570 = .ok (.iload 4, 2) := by decide +kernel
theorem dL_law_572 : decode cL_law 572 = .ok (.iconst 2, 1) := by decide +kernel
theorem dL_law_573 : decode cL_law 573 = .ok (.iadd, 1) := by decide +kernel
theorem dL_law_574 : decode cL_law 574 = .ok (.iaload, 1) := by decide +kernel
theorem dL_law_575 : decode cL_law 575 = .ok (.invokevirtual 80, 3) := by decide +kernel
theorem dL_law_578 : decode cL_law 578 = .ok (.istore 6, 2) := by decide +kernel
theorem dL_law_580 : decode cL_law 580 = .ok (.aload_n 2, 1) := by decide +kernel
theorem dL_law_581 : decode cL_law 581 = .ok (.invokevirtual 81, 3) := by decide +kernel
theorem dL_law_584 : decode cL_law 584 = .ok (.iload 5, 2) := by decide +kernel
theorem dL_law_586 : decode cL_law 586 = .ok (.if_icmp .eq 5, 3) := by decide +kernel
theorem dL_law_589 : decode cL_law 589 = .ok (.iconst 0, 1) := by decide +kernel
theorem dL_law_590 : decode cL_law 590 = .ok (.ireturn, 1) := by decide +kernel
theorem dL_law_591 : decode cL_law 591 = .ok (.iload 5, 2) := by decide +kernel
theorem dL_law_593 : decode cL_law 593 = .ok (.ifCond .ne 15, 3) := by decide +kernel
theorem dL_law_596 : decode cL_law 596 = .ok (.aload_n 3, 1) := by decide +kernel
theorem dL_law_597 : decode cL_law 597 = .ok (.iconst 0, 1) := by decide +kernel
theorem dL_law_598 : decode cL_law 598 = .ok (.laload, 1) := by decide +kernel
theorem dL_law_599 : decode cL_law 599 = .ok (.iload 6, 2) := by decide +kernel
theorem dL_law_601 : decode cL_law 601 = .ok (.i2l, 1) := by decide +kernel
theorem dL_law_602 : decode cL_law 602 = .ok (.lcmp, 1) := by decide +kernel
theorem dL_law_603 : decode cL_law 603 = .ok (.ifCond .eq 5, 3) := by decide +kernel
theorem dL_law_606 : decode cL_law 606 = .ok (.iconst 0, 1) := by decide +kernel
theorem dL_law_607 : decode cL_law 607 = .ok (.ireturn, 1) := by decide +kernel
theorem dL_law_608 : decode cL_law 608 = .ok (.goto 904, 3) := by decide +kernel
theorem dL_law_611 : decode cL_law 611 = .ok (.aload_n 1, 1) := by decide +kernel
theorem dL_law_612 : decode cL_law 612 = .ok (.aload_n 0, 1) := by decide +kernel
theorem dL_law_613 : decode cL_law 613 = .ok (.iload 4, 2) := by decide +kernel
theorem dL_law_615 : decode cL_law 615 = .ok (.iconst 1, 1) := by decide +kernel
theorem dL_law_616 : decode cL_law 616 = .ok (.iadd, 1) := by decide +kernel
theorem dL_law_617 : decode cL_law 617 = .ok (.iaload, 1) := by decide +kernel
theorem dL_law_618 : decode cL_law 618 = .ok (.aload_n 0, 1) := by decide +kernel
theorem dL_law_619 : decode cL_law 619 = .ok (.iload 4, 2) := by decide +kernel
theorem dL_law_621 : decode cL_law 621 = .ok (.iconst 2, 1) := by decide +kernel
theorem dL_law_622 : decode cL_law 622 = .ok (.iadd, 1) := by decide +kernel
theorem dL_law_623 : decode cL_law 623 = .ok (.iaload, 1) := by decide +kernel
theorem dL_law_624 : decode cL_law 624 = .ok (.aload_n 3, 1) := by decide +kernel
theorem dL_law_625 : decode cL_law 625 = .ok (.invokestatic 84, 3) := by decide +kernel
theorem dL_law_628 : decode cL_law 628 = .ok (.istore 5, 2) := by decide +kernel
theorem dL_law_630 : decode cL_law 630 = .ok (.aload_n 2, 1) := by decide +kernel
theorem dL_law_631 : decode cL_law 631 = .ok (.aload_n 0, 1) := by decide +kernel
theorem dL_law_632 : decode cL_law 632 = .ok (.iload 4, 2) := by decide +kernel
theorem dL_law_634 : decode cL_law 634 = .ok (.iconst 1, 1) := by decide +kernel
theorem dL_law_635 : decode cL_law 635 = .ok (.iadd, 1) := by decide +kernel
theorem dL_law_636 : decode cL_law 636 = .ok (.iaload, 1) := by decide +kernel
theorem dL_law_637 : decode cL_law 637 = .ok (.aload_n 0, 1) := by decide +kernel
theorem dL_law_638 : decode cL_law 638 = .ok (.iload 4, 2) := by decide +kernel
theorem dL_law_640 : decode cL_law 640 = .ok (.iconst 2, 1) := by decide +kernel
theorem dL_law_641 : decode cL_law 641 = .ok (.iadd, 1) := by decide +kernel
theorem dL_law_642 : decode cL_law 642 = .ok (.iaload, 1) := by decide +kernel
theorem dL_law_643 : decode cL_law 643 = .ok (.invokevirtual 86, 3) := by decide +kernel
theorem dL_law_646 : decode cL_law 646 = .ok (.istore 6, 2) := by decide +kernel
theorem dL_law_648 : decode cL_law 648 = .ok (.aload_n 2, 1) := by decide +kernel
theorem dL_law_649 : decode cL_law 649 = .ok (.invokevirtual 81, 3) := by decide +kernel
theorem dL_law_652 : decode cL_law 652 = .ok (.iload 5, 2) := by decide +kernel
theorem dL_law_654 : decode cL_law 654 = .ok (.if_icmp .eq 5, 3) := by decide +kernel
theorem dL_law_657 : decode cL_law 657 = .ok (.iconst 0, 1) := by decide +kernel
theorem dL_law_658 : decode cL_law 658 = .ok (.ireturn, 1) := by decide +kernel
theorem dL_law_659 : decode cL_law 659 = .ok (.iload 5, 2) := by decide +kernel
theorem dL_law_661 : decode cL_law 661 = .ok (.ifCond .ne 15, 3) := by decide +kernel
theorem dL_law_664 : decode cL_law 664 = .ok (.aload_n 3, 1) := by decide +kernel
theorem dL_law_665 : decode cL_law 665 = .ok (.iconst 0, 1) := by decide +kernel
theorem dL_law_666 : decode cL_law 666 = .ok (.laload, 1) := by decide +kernel
theorem dL_law_667 : decode cL_law 667 = .ok (.iload 6, 2) := by decide +kernel
theorem dL_law_669 : decode cL_law 669 = .ok (.i2l, 1) := by decide +kernel
theorem dL_law_670 : decode cL_law 670 = .ok (.lcmp, 1) := by decide +kernel
theorem dL_law_671 : decode cL_law 671 = .ok (.ifCond .eq 5, 3) := by decide +kernel
theorem dL_law_674 : decode cL_law 674 = .ok (.iconst 0, 1) := by decide +kernel
theorem dL_law_675 : decode cL_law 675 = .ok (.ireturn, 1) := by decide +kernel
theorem dL_law_676 : decode cL_law 676 = .ok (.goto 836, 3) := by decide +kernel
theorem dL_law_679 : decode cL_law 679 = .ok (.aload_n 1, 1) := by decide +kernel
theorem dL_law_680 : decode cL_law 680 = .ok (.aload_n 0, 1) := by decide +kernel
theorem dL_law_681 : decode cL_law 681 = .ok (.iload 4, 2) := by decide +kernel
theorem dL_law_683 : decode cL_law 683 = .ok (.iconst 1, 1) := by decide +kernel
theorem dL_law_684 : decode cL_law 684 = .ok (.iadd, 1) := by decide +kernel
theorem dL_law_685 : decode cL_law 685 = .ok (.iaload, 1) := by decide +kernel
theorem dL_law_686 : decode cL_law 686 = .ok (.invokevirtual 87, 3) := by decide +kernel
theorem dL_law_689 : decode cL_law 689 = .ok (.aload_n 2, 1) := by decide +kernel
theorem dL_law_690 : decode cL_law 690 = .ok (.aload_n 0, 1) := by decide +kernel
theorem dL_law_691 : decode cL_law 691 = .ok (.iload 4, 2) := by decide +kernel
theorem dL_law_693 : decode cL_law 693 = .ok (.iconst 1, 1) := by decide +kernel
theorem dL_law_694 : decode cL_law 694 = .ok (.iadd, 1) := by decide +kernel
theorem dL_law_695 : decode cL_law 695 = .ok (.iaload, 1) := by decide +kernel
theorem dL_law_696 : decode cL_law 696 = .ok (.invokevirtual 90, 3) := by decide +kernel
theorem dL_law_699 : decode cL_law 699 = .ok (.if_icmp .eq 813, 3) := by decide +kernel
theorem dL_law_702 : decode cL_law 702 = .ok (.iconst 0, 1) := by decide +kernel
theorem dL_law_703 : decode cL_law 703 = .ok (.ireturn, 1) := by decide +kernel
theorem dL_law_704 : decode cL_law 704 = .ok (.aload_n 1, 1) := by decide +kernel
theorem dL_law_705 : decode cL_law 705 = .ok (.aload_n 0, 1) := by decide +kernel
theorem dL_law_706 : decode cL_law 706 = .ok (.iload 4, 2) := by decide +kernel
theorem dL_law_708 : decode cL_law 708 = .ok (.iconst 1, 1) := by decide +kernel
theorem dL_law_709 : decode cL_law 709 = .ok (.iadd, 1) := by decide +kernel
theorem dL_law_710 : decode cL_law 710 = .ok (.iaload, 1) := by decide +kernel
theorem dL_law_711 : decode cL_law 711 = .ok (.aload_n 0, 1) := by decide +kernel
theorem dL_law_712 : decode cL_law 712 = .ok (.iload 4, 2) := by decide +kernel
theorem dL_law_714 : decode cL_law 714 = .ok (.iconst 2, 1) := by decide +kernel
theorem dL_law_715 : decode cL_law 715 = .ok (.iadd, 1) := by decide +kernel
theorem dL_law_716 : decode cL_law 716 = .ok (.iaload, 1) := by decide +kernel
theorem dL_law_717 : decode cL_law 717 = .ok (.invokevirtual 91, 3) := by decide +kernel
theorem dL_law_720 : decode cL_law 720 = .ok (.aload_n 2, 1) := by decide +kernel
theorem dL_law_721 : decode cL_law 721 = .ok (.aload_n 0, 1) := by decide +kernel
theorem dL_law_722 : decode cL_law 722 = .ok (.iload 4, 2) := by decide +kernel
theorem dL_law_724 : decode cL_law 724 = .ok (.iconst 1, 1) := by decide +kernel
theorem dL_law_725 : decode cL_law 725 = .ok (.iadd, 1) := by decide +kernel
theorem dL_law_726 : decode cL_law 726 = .ok (.iaload, 1) := by decide +kernel
theorem dL_law_727 : decode cL_law 727 = .ok (.aload_n 0, 1) := by decide +kernel
theorem dL_law_728 : decode cL_law 728 = .ok (.iload 4, 2) := by decide +kernel
theorem dL_law_730 : decode cL_law 730 = .ok (.iconst 2, 1) := by decide +kernel
theorem dL_law_731 : decode cL_law 731 = .ok (.iadd, 1) := by decide +kernel
theorem dL_law_732 : decode cL_law 732 = .ok (.iaload, 1) := by decide +kernel
theorem dL_law_733 : decode cL_law 733 = .ok (.invokevirtual 94, 3) := by decide +kernel
theorem dL_law_736 : decode cL_law 736 = .ok (.if_icmp .eq 776, 3) := by decide +kernel
theorem dL_law_739 : decode cL_law 739 = .ok (.iconst 0, 1) := by decide +kernel
theorem dL_law_740 : decode cL_law 740 = .ok (.ireturn, 1) := by decide +kernel
theorem dL_law_741 : decode cL_law 741 = .ok (.aload_n 1, 1) := by decide +kernel
theorem dL_law_742 : decode cL_law 742 = .ok (.aload_n 0, 1) := by decide +kernel
theorem dL_law_743 : decode cL_law 743 = .ok (.iload 4, 2) := by decide +kernel
theorem dL_law_745 : decode cL_law 745 = .ok (.iconst 1, 1) := by decide +kernel
theorem dL_law_746 : decode cL_law 746 = .ok (.iadd, 1) := by decide +kernel
theorem dL_law_747 : decode cL_law 747 = .ok (.iaload, 1) := by decide +kernel
theorem dL_law_748 : decode cL_law 748 = .ok (.invokevirtual 95, 3) := by decide +kernel
theorem dL_law_751 : decode cL_law 751 = .ok (.aload_n 2, 1) := by decide +kernel
theorem dL_law_752 : decode cL_law 752 = .ok (.aload_n 0, 1) := by decide +kernel
theorem dL_law_753 : decode cL_law 753 = .ok (.iload 4, 2) := by decide +kernel
theorem dL_law_755 : decode cL_law 755 = .ok (.iconst 1, 1) := by decide +kernel
theorem dL_law_756 : decode cL_law 756 = .ok (.iadd, 1) := by decide +kernel
theorem dL_law_757 : decode cL_law 757 = .ok (.iaload, 1) := by decide +kernel
theorem dL_law_758 : decode cL_law 758 = .ok (.invokevirtual 98, 3) := by decide +kernel
theorem dL_law_761 : decode cL_law 761 = .ok (.if_icmp .eq 751, 3) := by decide +kernel
theorem dL_law_764 : decode cL_law 764 = .ok (.iconst 0, 1) := by decide +kernel
theorem dL_law_765 : decode cL_law 765 = .ok (.ireturn, 1) := by decide +kernel
theorem dL_law_766 : decode cL_law 766 = .ok (.aload_n 1, 1) := by decide +kernel
theorem dL_law_767 : decode cL_law 767 = .ok (.invokevirtual 99, 3) := by decide +kernel
theorem dL_law_770 : decode cL_law 770 = .ok (.aload_n 2, 1) := by decide +kernel
theorem dL_law_771 : decode cL_law 771 = .ok (.invokevirtual 102, 3) := by decide +kernel
theorem dL_law_774 : decode cL_law 774 = .ok (.if_icmp .eq 738, 3) := by decide +kernel
theorem dL_law_777 : decode cL_law 777 = .ok (.iconst 0, 1) := by decide +kernel
theorem dL_law_778 : decode cL_law 778 = .ok (.ireturn, 1) := by decide +kernel
theorem dL_law_779 : decode cL_law 779 = .ok (.aload_n 1, 1) := by decide +kernel
theorem dL_law_780 : decode cL_law 780 = .ok (.aload_n 0, 1) := by decide +kernel
theorem dL_law_781 : decode cL_law 781 = .ok (.iload 4, 2) := by decide +kernel
theorem dL_law_783 : decode cL_law 783 = .ok (.iconst 1, 1) := by decide +kernel
theorem dL_law_784 : decode cL_law 784 = .ok (.iadd, 1) := by decide +kernel
theorem dL_law_785 : decode cL_law 785 = .ok (.iaload, 1) := by decide +kernel
theorem dL_law_786 : decode cL_law 786 = .ok (.aload_n 0, 1) := by decide +kernel
theorem dL_law_787 : decode cL_law 787 = .ok (.iload 4, 2) := by decide +kernel
theorem dL_law_789 : decode cL_law 789 = .ok (.iconst 2, 1) := by decide +kernel
theorem dL_law_790 : decode cL_law 790 = .ok (.iadd, 1) := by decide +kernel
theorem dL_law_791 : decode cL_law 791 = .ok (.iaload, 1) := by decide +kernel
theorem dL_law_792 : decode cL_law 792 = .ok (.invokevirtual 103, 3) := by decide +kernel
theorem dL_law_795 : decode cL_law 795 = .ok (.aload_n 2, 1) := by decide +kernel
theorem dL_law_796 : decode cL_law 796 = .ok (.aload_n 0, 1) := by decide +kernel
theorem dL_law_797 : decode cL_law 797 = .ok (.iload 4, 2) := by decide +kernel
theorem dL_law_799 : decode cL_law 799 = .ok (.iconst 1, 1) := by decide +kernel
theorem dL_law_800 : decode cL_law 800 = .ok (.iadd, 1) := by decide +kernel
theorem dL_law_801 : decode cL_law 801 = .ok (.iaload, 1) := by decide +kernel
theorem dL_law_802 : decode cL_law 802 = .ok (.aload_n 0, 1) := by decide +kernel
theorem dL_law_803 : decode cL_law 803 = .ok (.iload 4, 2) := by decide +kernel
theorem dL_law_805 : decode cL_law 805 = .ok (.iconst 2, 1) := by decide +kernel
theorem dL_law_806 : decode cL_law 806 = .ok (.iadd, 1) := by decide +kernel
theorem dL_law_807 : decode cL_law 807 = .ok (.iaload, 1) := by decide +kernel
theorem dL_law_808 : decode cL_law 808 = .ok (.invokevirtual 106, 3) := by decide +kernel
theorem dL_law_811 : decode cL_law 811 = .ok (.if_icmp .eq 701, 3) := by decide +kernel
theorem dL_law_814 : decode cL_law 814 = .ok (.iconst 0, 1) := by decide +kernel
theorem dL_law_815 : decode cL_law 815 = .ok (.ireturn, 1) := by decide +kernel
theorem dL_law_816 : decode cL_law 816 = .ok (.aload_n 1, 1) := by decide +kernel
theorem dL_law_817 : decode cL_law 817 = .ok (.aload_n 0, 1) := by decide +kernel
theorem dL_law_818 : decode cL_law 818 = .ok (.iload 4, 2) := by decide +kernel
theorem dL_law_820 : decode cL_law 820 = .ok (.iconst 1, 1) := by decide +kernel
theorem dL_law_821 : decode cL_law 821 = .ok (.iadd, 1) := by decide +kernel
theorem dL_law_822 : decode cL_law 822 = .ok (.iaload, 1) := by decide +kernel
theorem dL_law_823 : decode cL_law 823 = .ok (.aload_n 0, 1) := by decide +kernel
theorem dL_law_824 : decode cL_law 824 = .ok (.iload 4, 2) := by decide +kernel
theorem dL_law_826 : decode cL_law 826 = .ok (.iconst 2, 1) := by decide +kernel
theorem dL_law_827 : decode cL_law 827 = .ok (.iadd, 1) := by decide +kernel
theorem dL_law_828 : decode cL_law 828 = .ok (.iaload, 1) := by decide +kernel
theorem dL_law_829 : decode cL_law 829 = .ok (.aload_n 0, 1) := by decide +kernel
theorem dL_law_830 : decode cL_law 830 = .ok (.iload 4, 2) := by decide +kernel
theorem dL_law_832 : decode cL_law 832 = .ok (.iconst 3, 1) := by decide +kernel
theorem dL_law_833 : decode cL_law 833 = .ok (.iadd, 1) := by decide +kernel
theorem dL_law_834 : decode cL_law 834 = .ok (.iaload, 1) := by decide +kernel
theorem dL_law_835 : decode cL_law 835 = .ok (.aload_n 0, 1) := by decide +kernel
theorem dL_law_836 : decode cL_law 836 = .ok (.iload 4, 2) := by decide +kernel
theorem dL_law_838 : decode cL_law 838 = .ok (.iconst 4, 1) := by decide +kernel
theorem dL_law_839 : decode cL_law 839 = .ok (.iadd, 1) := by decide +kernel
theorem dL_law_840 : decode cL_law 840 = .ok (.iaload, 1) := by decide +kernel
theorem dL_law_841 : decode cL_law 841 = .ok (.aload_n 0, 1) := by decide +kernel
theorem dL_law_842 : decode cL_law 842 = .ok (.iload 4, 2) := by decide +kernel
theorem dL_law_844 : decode cL_law 844 = .ok (.iconst 5, 1) := by decide +kernel
theorem dL_law_845 : decode cL_law 845 = .ok (.iadd, 1) := by decide +kernel
theorem dL_law_846 : decode cL_law 846 = .ok (.iaload, 1) := by decide +kernel
theorem dL_law_847 : decode cL_law 847 = .ok (.invokevirtual 107, 3) := by decide +kernel
theorem dL_law_850 : decode cL_law 850 = .ok (.aload_n 2, 1) := by decide +kernel
theorem dL_law_851 : decode cL_law 851 = .ok (.aload_n 0, 1) := by decide +kernel
theorem dL_law_852 : decode cL_law 852 = .ok (.iload 4, 2) := by decide +kernel
theorem dL_law_854 : decode cL_law 854 = .ok (.iconst 1, 1) := by decide +kernel
theorem dL_law_855 : decode cL_law 855 = .ok (.iadd, 1) := by decide +kernel
theorem dL_law_856 : decode cL_law 856 = .ok (.iaload, 1) := by decide +kernel
theorem dL_law_857 : decode cL_law 857 = .ok (.aload_n 0, 1) := by decide +kernel
theorem dL_law_858 : decode cL_law 858 = .ok (.iload 4, 2) := by decide +kernel
theorem dL_law_860 : decode cL_law 860 = .ok (.iconst 2, 1) := by decide +kernel
theorem dL_law_861 : decode cL_law 861 = .ok (.iadd, 1) := by decide +kernel
theorem dL_law_862 : decode cL_law 862 = .ok (.iaload, 1) := by decide +kernel
theorem dL_law_863 : decode cL_law 863 = .ok (.aload_n 0, 1) := by decide +kernel
theorem dL_law_864 : decode cL_law 864 = .ok (.iload 4, 2) := by decide +kernel
theorem dL_law_866 : decode cL_law 866 = .ok (.iconst 3, 1) := by decide +kernel
theorem dL_law_867 : decode cL_law 867 = .ok (.iadd, 1) := by decide +kernel
theorem dL_law_868 : decode cL_law 868 = .ok (.iaload, 1) := by decide +kernel
theorem dL_law_869 : decode cL_law 869 = .ok (.aload_n 0, 1) := by decide +kernel
theorem dL_law_870 : decode cL_law 870 = .ok (.iload 4, 2) := by decide +kernel
theorem dL_law_872 : decode cL_law 872 = .ok (.iconst 4, 1) := by decide +kernel
theorem dL_law_873 : decode cL_law 873 = .ok (.iadd, 1) := by decide +kernel
theorem dL_law_874 : decode cL_law 874 = .ok (.iaload, 1) := by decide +kernel
theorem dL_law_875 : decode cL_law 875 = .ok (.aload_n 0, 1) := by decide +kernel
theorem dL_law_876 : decode cL_law 876 = .ok (.iload 4, 2) := by decide +kernel
theorem dL_law_878 : decode cL_law 878 = .ok (.iconst 5, 1) := by decide +kernel
theorem dL_law_879 : decode cL_law 879 = .ok (.iadd, 1) := by decide +kernel
theorem dL_law_880 : decode cL_law 880 = .ok (.iaload, 1) := by decide +kernel
theorem dL_law_881 : decode cL_law 881 = .ok (.invokevirtual 111, 3) := by decide +kernel
theorem dL_law_884 : decode cL_law 884 = .ok (.if_icmp .eq 628, 3) := by decide +kernel
theorem dL_law_887 : decode cL_law 887 = .ok (.iconst 0, 1) := by decide +kernel
theorem dL_law_888 : decode cL_law 888 = .ok (.ireturn, 1) := by decide +kernel
theorem dL_law_889 : decode cL_law 889 = .ok (.aload_n 1, 1) := by decide +kernel
theorem dL_law_890 : decode cL_law 890 = .ok (.aload_n 0, 1) := by decide +kernel
theorem dL_law_891 : decode cL_law 891 = .ok (.iload 4, 2) := by decide +kernel
theorem dL_law_893 : decode cL_law 893 = .ok (.iconst 1, 1) := by decide +kernel
theorem dL_law_894 : decode cL_law 894 = .ok (.iadd, 1) := by decide +kernel
theorem dL_law_895 : decode cL_law 895 = .ok (.iaload, 1) := by decide +kernel
theorem dL_law_896 : decode cL_law 896 = .ok (.aload_n 0, 1) := by decide +kernel
theorem dL_law_897 : decode cL_law 897 = .ok (.iload 4, 2) := by decide +kernel
theorem dL_law_899 : decode cL_law 899 = .ok (.iconst 2, 1) := by decide +kernel
theorem dL_law_900 : decode cL_law 900 = .ok (.iadd, 1) := by decide +kernel
theorem dL_law_901 : decode cL_law 901 = .ok (.iaload, 1) := by decide +kernel
theorem dL_law_902 : decode cL_law 902 = .ok (.aload_n 0, 1) := by decide +kernel
theorem dL_law_903 : decode cL_law 903 = .ok (.iload 4, 2) := by decide +kernel
theorem dL_law_905 : decode cL_law 905 = .ok (.iconst 3, 1) := by decide +kernel
theorem dL_law_906 : decode cL_law 906 = .ok (.iadd, 1) := by decide +kernel
theorem dL_law_907 : decode cL_law 907 = .ok (.iaload, 1) := by decide +kernel
theorem dL_law_908 : decode cL_law 908 = .ok (.ifCond .eq 7, 3) := by decide +kernel
theorem dL_law_911 : decode cL_law 911 = .ok (.iconst 1, 1) := by decide +kernel
theorem dL_law_912 : decode cL_law 912 = .ok (.goto 4, 3) := by decide +kernel
theorem dL_law_915 : decode cL_law 915 = .ok (.iconst 0, 1) := by decide +kernel
theorem dL_law_916 : decode cL_law 916 = .ok (.invokevirtual 112, 3) := by decide +kernel
theorem dL_law_919 : decode cL_law 919 = .ok (.aload_n 2, 1) := by decide +kernel
theorem dL_law_920 : decode cL_law 920 = .ok (.aload_n 0, 1) := by decide +kernel
theorem dL_law_921 : decode cL_law 921 = .ok (.iload 4, 2) := by decide +kernel
theorem dL_law_923 : decode cL_law 923 = .ok (.iconst 1, 1) := by decide +kernel
theorem dL_law_924 : decode cL_law 924 = .ok (.iadd, 1) := by decide +kernel
theorem dL_law_925 : decode cL_law 925 = .ok (.iaload, 1) := by decide +kernel
theorem dL_law_926 : decode cL_law 926 = .ok (.aload_n 0, 1) := by decide +kernel
theorem dL_law_927 : decode cL_law 927 = .ok (.iload 4, 2) := by decide +kernel
theorem dL_law_929 : decode cL_law 929 = .ok (.iconst 2, 1) := by decide +kernel
theorem dL_law_930 : decode cL_law 930 = .ok (.iadd, 1) := by decide +kernel
theorem dL_law_931 : decode cL_law 931 = .ok (.iaload, 1) := by decide +kernel
theorem dL_law_932 : decode cL_law 932 = .ok (.aload_n 0, 1) := by decide +kernel
theorem dL_law_933 : decode cL_law 933 = .ok (.iload 4, 2) := by decide +kernel
theorem dL_law_935 : decode cL_law 935 = .ok (.iconst 3, 1) := by decide +kernel
theorem dL_law_936 : decode cL_law 936 = .ok (.iadd, 1) := by decide +kernel
theorem dL_law_937 : decode cL_law 937 = .ok (.iaload, 1) := by decide +kernel
theorem dL_law_938 : decode cL_law 938 = .ok (.ifCond .eq 7, 3) := by decide +kernel
theorem dL_law_941 : decode cL_law 941 = .ok (.iconst 1, 1) := by decide +kernel
theorem dL_law_942 : decode cL_law 942 = .ok (.goto 4, 3) := by decide +kernel
theorem dL_law_945 : decode cL_law 945 = .ok (.iconst 0, 1) := by decide +kernel
theorem dL_law_946 : decode cL_law 946 = .ok (.invokevirtual 116, 3) := by decide +kernel
theorem dL_law_949 : decode cL_law 949 = .ok (.if_icmp .eq 563, 3) := by decide +kernel
theorem dL_law_952 : decode cL_law 952 = .ok (.iconst 0, 1) := by decide +kernel
theorem dL_law_953 : decode cL_law 953 = .ok (.ireturn, 1) := by decide +kernel
theorem dL_law_954 : decode cL_law 954 = .ok (.aload_n 1, 1) := by decide +kernel
theorem dL_law_955 : decode cL_law 955 = .ok (.aload_n 0, 1) := by decide +kernel
theorem dL_law_956 : decode cL_law 956 = .ok (.iload 4, 2) := by decide +kernel
theorem dL_law_958 : decode cL_law 958 = .ok (.iconst 1, 1) := by decide +kernel
theorem dL_law_959 : decode cL_law 959 = .ok (.iadd, 1) := by decide +kernel
theorem dL_law_960 : decode cL_law 960 = .ok (.iaload, 1) := by decide +kernel
theorem dL_law_961 : decode cL_law 961 = .ok (.invokevirtual 117, 3) := by decide +kernel
theorem dL_law_964 : decode cL_law 964 = .ok (.aload_n 2, 1) := by decide +kernel
theorem dL_law_965 : decode cL_law 965 = .ok (.aload_n 0, 1) := by decide +kernel
theorem dL_law_966 : decode cL_law 966 = .ok (.iload 4, 2) := by decide +kernel
theorem dL_law_968 : decode cL_law 968 = .ok (.iconst 1, 1) := by decide +kernel
theorem dL_law_969 : decode cL_law 969 = .ok (.iadd, 1) := by decide +kernel
theorem dL_law_970 : decode cL_law 970 = .ok (.iaload, 1) := by decide +kernel
theorem dL_law_971 : decode cL_law 971 = .ok (.invokevirtual 120, 3) := by decide +kernel
theorem dL_law_974 : decode cL_law 974 = .ok (.if_icmp .eq 538, 3) := by decide +kernel
theorem dL_law_977 : decode cL_law 977 = .ok (.iconst 0, 1) := by decide +kernel
theorem dL_law_978 : decode cL_law 978 = .ok (.ireturn, 1) := by decide +kernel
theorem dL_law_979 : decode cL_law 979 = .ok (.aload_n 1, 1) := by decide +kernel
theorem dL_law_980 : decode cL_law 980 = .ok (.aload_n 0, 1) := by decide +kernel
theorem dL_law_981 : decode cL_law 981 = .ok (.iload 4, 2) := by decide +kernel
theorem dL_law_983 : decode cL_law 983 = .ok (.iconst 1, 1) := by decide +kernel
theorem dL_law_984 : decode cL_law 984 = .ok (.iadd, 1) := by decide +kernel
theorem dL_law_985 : decode cL_law 985 = .ok (.iaload, 1) := by decide +kernel
theorem dL_law_986 : decode cL_law 986 = .ok (.aload_n 0, 1) := by decide +kernel
theorem dL_law_987 : decode cL_law 987 = .ok (.iload 4, 2) := by decide +kernel
theorem dL_law_989 : decode cL_law 989 = .ok (.iconst 2, 1) := by decide +kernel
theorem dL_law_990 : decode cL_law 990 = .ok (.iadd, 1) := by decide +kernel
theorem dL_law_991 : decode cL_law 991 = .ok (.iaload, 1) := by decide +kernel
theorem dL_law_992 : decode cL_law 992 = .ok (.ifCond .eq 7, 3) := by decide +kernel
theorem dL_law_995 : decode cL_law 995 = .ok (.iconst 1, 1) := by decide +kernel
theorem dL_law_996 : decode cL_law 996 = .ok (.goto 4, 3) := by decide +kernel
theorem dL_law_999 : decode cL_law 999 = .ok (.iconst 0, 1) := by decide +kernel
theorem dL_law_1000 : decode cL_law 1000 = .ok (.invokevirtual 121, 3) := by decide +kernel
theorem dL_law_1003 : decode cL_law 1003 = .ok (.aload_n 2, 1) := by decide +kernel
theorem dL_law_1004 : decode cL_law 1004 = .ok (.aload_n 0, 1) := by decide +kernel
theorem dL_law_1005 : decode cL_law 1005 = .ok (.iload 4, 2) := by decide +kernel
theorem dL_law_1007 : decode cL_law 1007 = .ok (.iconst 1, 1) := by decide +kernel
theorem dL_law_1008 : decode cL_law 1008 = .ok (.iadd, 1) := by decide +kernel
theorem dL_law_1009 : decode cL_law 1009 = .ok (.iaload, 1) := by decide +kernel
theorem dL_law_1010 : decode cL_law 1010 = .ok (.aload_n 0, 1) := by decide +kernel
theorem dL_law_1011 : decode cL_law 1011 = .ok (.iload 4, 2) := by decide +kernel
theorem dL_law_1013 : decode cL_law 1013 = .ok (.iconst 2, 1) := by decide +kernel
theorem dL_law_1014 : decode cL_law 1014 = .ok (.iadd, 1) := by decide +kernel
theorem dL_law_1015 : decode cL_law 1015 = .ok (.iaload, 1) := by decide +kernel
theorem dL_law_1016 : decode cL_law 1016 = .ok (.ifCond .eq 7, 3) := by decide +kernel
theorem dL_law_1019 : decode cL_law 1019 = .ok (.iconst 1, 1) := by decide +kernel
theorem dL_law_1020 : decode cL_law 1020 = .ok (.goto 4, 3) := by decide +kernel
theorem dL_law_1023 : decode cL_law 1023 = .ok (.iconst 0, 1) := by decide +kernel
theorem dL_law_1024 : decode cL_law 1024 = .ok (.invokevirtual 124, 3) := by decide +kernel
theorem dL_law_1027 : decode cL_law 1027 = .ok (.if_icmp .eq 485, 3) := by decide +kernel
theorem dL_law_1030 : decode cL_law 1030 = .ok (.iconst 0, 1) := by decide +kernel
theorem dL_law_1031 : decode cL_law 1031 = .ok (.ireturn, 1) := by decide +kernel
theorem dL_law_1032 : decode cL_law 1032 = .ok (.aload_n 1, 1) := by decide +kernel
theorem dL_law_1033 : decode cL_law 1033 = .ok (.aload_n 0, 1) := by decide +kernel
theorem dL_law_1034 : decode cL_law 1034 = .ok (.iload 4, 2) := by decide +kernel
theorem dL_law_1036 : decode cL_law 1036 = .ok (.iconst 1, 1) := by decide +kernel
theorem dL_law_1037 : decode cL_law 1037 = .ok (.iadd, 1) := by decide +kernel
theorem dL_law_1038 : decode cL_law 1038 = .ok (.iaload, 1) := by decide +kernel
theorem dL_law_1039 : decode cL_law 1039 = .ok (.invokevirtual 125, 3) := by decide +kernel
theorem dL_law_1042 : decode cL_law 1042 = .ok (.aload_n 2, 1) := by decide +kernel
theorem dL_law_1043 : decode cL_law 1043 = .ok (.aload_n 0, 1) := by decide +kernel
theorem dL_law_1044 : decode cL_law 1044 = .ok (.iload 4, 2) := by decide +kernel
theorem dL_law_1046 : decode cL_law 1046 = .ok (.iconst 1, 1) := by decide +kernel
theorem dL_law_1047 : decode cL_law 1047 = .ok (.iadd, 1) := by decide +kernel
theorem dL_law_1048 : decode cL_law 1048 = .ok (.iaload, 1) := by decide +kernel
theorem dL_law_1049 : decode cL_law 1049 = .ok (.invokevirtual 128, 3) := by decide +kernel
theorem dL_law_1052 : decode cL_law 1052 = .ok (.if_icmp .eq 460, 3) := by decide +kernel
theorem dL_law_1055 : decode cL_law 1055 = .ok (.iconst 0, 1) := by decide +kernel
theorem dL_law_1056 : decode cL_law 1056 = .ok (.ireturn, 1) := by decide +kernel
theorem dL_law_1057 : decode cL_law 1057 = .ok (.aload_n 1, 1) := by decide +kernel
theorem dL_law_1058 : decode cL_law 1058 = .ok (.aload_n 0, 1) := by decide +kernel
theorem dL_law_1059 : decode cL_law 1059 = .ok (.iload 4, 2) := by decide +kernel
theorem dL_law_1061 : decode cL_law 1061 = .ok (.iconst 1, 1) := by decide +kernel
theorem dL_law_1062 : decode cL_law 1062 = .ok (.iadd, 1) := by decide +kernel
theorem dL_law_1063 : decode cL_law 1063 = .ok (.iaload, 1) := by decide +kernel
theorem dL_law_1064 : decode cL_law 1064 = .ok (.aload_n 0, 1) := by decide +kernel
theorem dL_law_1065 : decode cL_law 1065 = .ok (.iload 4, 2) := by decide +kernel
theorem dL_law_1067 : decode cL_law 1067 = .ok (.iconst 2, 1) := by decide +kernel
theorem dL_law_1068 : decode cL_law 1068 = .ok (.iadd, 1) := by decide +kernel
theorem dL_law_1069 : decode cL_law 1069 = .ok (.iaload, 1) := by decide +kernel
theorem dL_law_1070 : decode cL_law 1070 = .ok (.ifCond .eq 7, 3) := by decide +kernel
theorem dL_law_1073 : decode cL_law 1073 = .ok (.iconst 1, 1) := by decide +kernel
theorem dL_law_1074 : decode cL_law 1074 = .ok (.goto 4, 3) := by decide +kernel
theorem dL_law_1077 : decode cL_law 1077 = .ok (.iconst 0, 1) := by decide +kernel
theorem dL_law_1078 : decode cL_law 1078 = .ok (.invokevirtual 129, 3) := by decide +kernel
theorem dL_law_1081 : decode cL_law 1081 = .ok (.aload_n 2, 1) := by decide +kernel
theorem dL_law_1082 : decode cL_law 1082 = .ok (.aload_n 0, 1) := by decide +kernel
theorem dL_law_1083 : decode cL_law 1083 = .ok (.iload 4, 2) := by decide +kernel
theorem dL_law_1085 : decode cL_law 1085 = .ok (.iconst 1, 1) := by decide +kernel
theorem dL_law_1086 : decode cL_law 1086 = .ok (.iadd, 1) := by decide +kernel
theorem dL_law_1087 : decode cL_law 1087 = .ok (.iaload, 1) := by decide +kernel
theorem dL_law_1088 : decode cL_law 1088 = .ok (.aload_n 0, 1) := by decide +kernel
theorem dL_law_1089 : decode cL_law 1089 = .ok (.iload 4, 2) := by decide +kernel
theorem dL_law_1091 : decode cL_law 1091 = .ok (.iconst 2, 1) := by decide +kernel
theorem dL_law_1092 : decode cL_law 1092 = .ok (.iadd, 1) := by decide +kernel
theorem dL_law_1093 : decode cL_law 1093 = .ok (.iaload, 1) := by decide +kernel
theorem dL_law_1094 : decode cL_law 1094 = .ok (.ifCond .eq 7, 3) := by decide +kernel
theorem dL_law_1097 : decode cL_law 1097 = .ok (.iconst 1, 1) := by decide +kernel
theorem dL_law_1098 : decode cL_law 1098 = .ok (.goto 4, 3) := by decide +kernel
theorem dL_law_1101 : decode cL_law 1101 = .ok (.iconst 0, 1) := by decide +kernel
theorem dL_law_1102 : decode cL_law 1102 = .ok (.invokevirtual 132, 3) := by decide +kernel
theorem dL_law_1105 : decode cL_law 1105 = .ok (.if_icmp .eq 407, 3) := by decide +kernel
theorem dL_law_1108 : decode cL_law 1108 = .ok (.iconst 0, 1) := by decide +kernel
theorem dL_law_1109 : decode cL_law 1109 = .ok (.ireturn, 1) := by decide +kernel
theorem dL_law_1110 : decode cL_law 1110 = .ok (.aload_n 1, 1) := by decide +kernel
theorem dL_law_1111 : decode cL_law 1111 = .ok (.aload_n 0, 1) := by decide +kernel
theorem dL_law_1112 : decode cL_law 1112 = .ok (.iload 4, 2) := by decide +kernel
theorem dL_law_1114 : decode cL_law 1114 = .ok (.iconst 1, 1) := by decide +kernel
theorem dL_law_1115 : decode cL_law 1115 = .ok (.iadd, 1) := by decide +kernel
theorem dL_law_1116 : decode cL_law 1116 = .ok (.iaload, 1) := by decide +kernel
theorem dL_law_1117 : decode cL_law 1117 = .ok (.invokevirtual 133, 3) := by decide +kernel
theorem dL_law_1120 : decode cL_law 1120 = .ok (.aload_n 2, 1) := by decide +kernel
theorem dL_law_1121 : decode cL_law 1121 = .ok (.aload_n 0, 1) := by decide +kernel
theorem dL_law_1122 : decode cL_law 1122 = .ok (.iload 4, 2) := by decide +kernel
theorem dL_law_1124 : decode cL_law 1124 = .ok (.iconst 1, 1) := by decide +kernel
theorem dL_law_1125 : decode cL_law 1125 = .ok (.iadd, 1) := by decide +kernel
theorem dL_law_1126 : decode cL_law 1126 = .ok (.iaload, 1) := by decide +kernel
theorem dL_law_1127 : decode cL_law 1127 = .ok (.invokevirtual 136, 3) := by decide +kernel
theorem dL_law_1130 : decode cL_law 1130 = .ok (.if_icmp .eq 382, 3) := by decide +kernel
theorem dL_law_1133 : decode cL_law 1133 = .ok (.iconst 0, 1) := by decide +kernel
theorem dL_law_1134 : decode cL_law 1134 = .ok (.ireturn, 1) := by decide +kernel
theorem dL_law_1135 : decode cL_law 1135 = .ok (.aload_n 1, 1) := by decide +kernel
theorem dL_law_1136 : decode cL_law 1136 = .ok (.aload_n 0, 1) := by decide +kernel
theorem dL_law_1137 : decode cL_law 1137 = .ok (.iload 4, 2) := by decide +kernel
theorem dL_law_1139 : decode cL_law 1139 = .ok (.iconst 1, 1) := by decide +kernel
theorem dL_law_1140 : decode cL_law 1140 = .ok (.iadd, 1) := by decide +kernel
theorem dL_law_1141 : decode cL_law 1141 = .ok (.iaload, 1) := by decide +kernel
theorem dL_law_1142 : decode cL_law 1142 = .ok (.aload_n 0, 1) := by decide +kernel
theorem dL_law_1143 : decode cL_law 1143 = .ok (.iload 4, 2) := by decide +kernel
theorem dL_law_1145 : decode cL_law 1145 = .ok (.iconst 2, 1) := by decide +kernel
theorem dL_law_1146 : decode cL_law 1146 = .ok (.iadd, 1) := by decide +kernel
theorem dL_law_1147 : decode cL_law 1147 = .ok (.iaload, 1) := by decide +kernel
theorem dL_law_1148 : decode cL_law 1148 = .ok (.invokevirtual 137, 3) := by decide +kernel
theorem dL_law_1151 : decode cL_law 1151 = .ok (.aload_n 2, 1) := by decide +kernel
theorem dL_law_1152 : decode cL_law 1152 = .ok (.aload_n 0, 1) := by decide +kernel
theorem dL_law_1153 : decode cL_law 1153 = .ok (.iload 4, 2) := by decide +kernel
theorem dL_law_1155 : decode cL_law 1155 = .ok (.iconst 1, 1) := by decide +kernel
theorem dL_law_1156 : decode cL_law 1156 = .ok (.iadd, 1) := by decide +kernel
theorem dL_law_1157 : decode cL_law 1157 = .ok (.iaload, 1) := by decide +kernel
theorem dL_law_1158 : decode cL_law 1158 = .ok (.aload_n 0, 1) := by decide +kernel
theorem dL_law_1159 : decode cL_law 1159 = .ok (.iload 4, 2) := by decide +kernel
theorem dL_law_1161 : decode cL_law 1161 = .ok (.iconst 2, 1) := by decide +kernel
theorem dL_law_1162 : decode cL_law 1162 = .ok (.iadd, 1) := by decide +kernel
theorem dL_law_1163 : decode cL_law 1163 = .ok (.iaload, 1) := by decide +kernel
theorem dL_law_1164 : decode cL_law 1164 = .ok (.invokevirtual 140, 3) := by decide +kernel
theorem dL_law_1167 : decode cL_law 1167 = .ok (.if_icmp .eq 345, 3) := by decide +kernel
theorem dL_law_1170 : decode cL_law 1170 = .ok (.iconst 0, 1) := by decide +kernel
theorem dL_law_1171 : decode cL_law 1171 = .ok (.ireturn, 1) := by decide +kernel
theorem dL_law_1172 : decode cL_law 1172 = .ok (.aload_n 1, 1) := by decide +kernel
theorem dL_law_1173 : decode cL_law 1173 = .ok (.aload_n 0, 1) := by decide +kernel
theorem dL_law_1174 : decode cL_law 1174 = .ok (.iload 4, 2) := by decide +kernel
theorem dL_law_1176 : decode cL_law 1176 = .ok (.iconst 1, 1) := by decide +kernel
theorem dL_law_1177 : decode cL_law 1177 = .ok (.iadd, 1) := by decide +kernel
theorem dL_law_1178 : decode cL_law 1178 = .ok (.iaload, 1) := by decide +kernel
theorem dL_law_1179 : decode cL_law 1179 = .ok (.aload_n 0, 1) := by decide +kernel
theorem dL_law_1180 : decode cL_law 1180 = .ok (.iload 4, 2) := by decide +kernel
theorem dL_law_1182 : decode cL_law 1182 = .ok (.iconst 2, 1) := by decide +kernel
theorem dL_law_1183 : decode cL_law 1183 = .ok (.iadd, 1) := by decide +kernel
theorem dL_law_1184 : decode cL_law 1184 = .ok (.iaload, 1) := by decide +kernel
theorem dL_law_1185 : decode cL_law 1185 = .ok (.invokevirtual 141, 3) := by decide +kernel
theorem dL_law_1188 : decode cL_law 1188 = .ok (.aload_n 2, 1) := by decide +kernel
theorem dL_law_1189 : decode cL_law 1189 = .ok (.aload_n 0, 1) := by decide +kernel
theorem dL_law_1190 : decode cL_law 1190 = .ok (.iload 4, 2) := by decide +kernel
theorem dL_law_1192 : decode cL_law 1192 = .ok (.iconst 1, 1) := by decide +kernel
theorem dL_law_1193 : decode cL_law 1193 = .ok (.iadd, 1) := by decide +kernel
theorem dL_law_1194 : decode cL_law 1194 = .ok (.iaload, 1) := by decide +kernel
theorem dL_law_1195 : decode cL_law 1195 = .ok (.aload_n 0, 1) := by decide +kernel
theorem dL_law_1196 : decode cL_law 1196 = .ok (.iload 4, 2) := by decide +kernel
theorem dL_law_1198 : decode cL_law 1198 = .ok (.iconst 2, 1) := by decide +kernel
theorem dL_law_1199 : decode cL_law 1199 = .ok (.iadd, 1) := by decide +kernel
theorem dL_law_1200 : decode cL_law 1200 = .ok (.iaload, 1) := by decide +kernel
theorem dL_law_1201 : decode cL_law 1201 = .ok (.invokevirtual 144, 3) := by decide +kernel
theorem dL_law_1204 : decode cL_law 1204 = .ok (.if_icmp .eq 308, 3) := by decide +kernel
theorem dL_law_1207 : decode cL_law 1207 = .ok (.iconst 0, 1) := by decide +kernel
theorem dL_law_1208 : decode cL_law 1208 = .ok (.ireturn, 1) := by decide +kernel
theorem dL_law_1209 : decode cL_law 1209 = .ok (.aload_n 1, 1) := by decide +kernel
theorem dL_law_1210 : decode cL_law 1210 = .ok (.aload_n 0, 1) := by decide +kernel
theorem dL_law_1211 : decode cL_law 1211 = .ok (.iload 4, 2) := by decide +kernel
theorem dL_law_1213 : decode cL_law 1213 = .ok (.iconst 1, 1) := by decide +kernel
theorem dL_law_1214 : decode cL_law 1214 = .ok (.iadd, 1) := by decide +kernel
theorem dL_law_1215 : decode cL_law 1215 = .ok (.iaload, 1) := by decide +kernel
theorem dL_law_1216 : decode cL_law 1216 = .ok (.aload_n 0, 1) := by decide +kernel
theorem dL_law_1217 : decode cL_law 1217 = .ok (.iload 4, 2) := by decide +kernel
theorem dL_law_1219 : decode cL_law 1219 = .ok (.iconst 2, 1) := by decide +kernel
theorem dL_law_1220 : decode cL_law 1220 = .ok (.iadd, 1) := by decide +kernel
theorem dL_law_1221 : decode cL_law 1221 = .ok (.iaload, 1) := by decide +kernel
theorem dL_law_1222 : decode cL_law 1222 = .ok (.aload_n 0, 1) := by decide +kernel
theorem dL_law_1223 : decode cL_law 1223 = .ok (.iload 4, 2) := by decide +kernel
theorem dL_law_1225 : decode cL_law 1225 = .ok (.iconst 3, 1) := by decide +kernel
theorem dL_law_1226 : decode cL_law 1226 = .ok (.iadd, 1) := by decide +kernel
theorem dL_law_1227 : decode cL_law 1227 = .ok (.iaload, 1) := by decide +kernel
theorem dL_law_1228 : decode cL_law 1228 = .ok (.aload_n 0, 1) := by decide +kernel
theorem dL_law_1229 : decode cL_law 1229 = .ok (.iload 4, 2) := by decide +kernel
theorem dL_law_1231 : decode cL_law 1231 = .ok (.iconst 4, 1) := by decide +kernel
theorem dL_law_1232 : decode cL_law 1232 = .ok (.iadd, 1) := by decide +kernel
theorem dL_law_1233 : decode cL_law 1233 = .ok (.iaload, 1) := by decide +kernel
theorem dL_law_1234 : decode cL_law 1234 = .ok (.invokevirtual 145, 3) := by decide +kernel
theorem dL_law_1237 : decode cL_law 1237 = .ok (.aload_n 2, 1) := by decide +kernel
theorem dL_law_1238 : decode cL_law 1238 = .ok (.aload_n 0, 1) := by decide +kernel
theorem dL_law_1239 : decode cL_law 1239 = .ok (.iload 4, 2) := by decide +kernel
theorem dL_law_1241 : decode cL_law 1241 = .ok (.iconst 1, 1) := by decide +kernel
theorem dL_law_1242 : decode cL_law 1242 = .ok (.iadd, 1) := by decide +kernel
theorem dL_law_1243 : decode cL_law 1243 = .ok (.iaload, 1) := by decide +kernel
theorem dL_law_1244 : decode cL_law 1244 = .ok (.aload_n 0, 1) := by decide +kernel
theorem dL_law_1245 : decode cL_law 1245 = .ok (.iload 4, 2) := by decide +kernel
theorem dL_law_1247 : decode cL_law 1247 = .ok (.iconst 2, 1) := by decide +kernel
theorem dL_law_1248 : decode cL_law 1248 = .ok (.iadd, 1) := by decide +kernel
theorem dL_law_1249 : decode cL_law 1249 = .ok (.iaload, 1) := by decide +kernel
theorem dL_law_1250 : decode cL_law 1250 = .ok (.aload_n 0, 1) := by decide +kernel
theorem dL_law_1251 : decode cL_law 1251 = .ok (.iload 4, 2) := by decide +kernel
theorem dL_law_1253 : decode cL_law 1253 = .ok (.iconst 3, 1) := by decide +kernel
theorem dL_law_1254 : decode cL_law 1254 = .ok (.iadd, 1) := by decide +kernel
theorem dL_law_1255 : decode cL_law 1255 = .ok (.iaload, 1) := by decide +kernel
theorem dL_law_1256 : decode cL_law 1256 = .ok (.aload_n 0, 1) := by decide +kernel
theorem dL_law_1257 : decode cL_law 1257 = .ok (.iload 4, 2) := by decide +kernel
theorem dL_law_1259 : decode cL_law 1259 = .ok (.iconst 4, 1) := by decide +kernel
theorem dL_law_1260 : decode cL_law 1260 = .ok (.iadd, 1) := by decide +kernel
theorem dL_law_1261 : decode cL_law 1261 = .ok (.iaload, 1) := by decide +kernel
theorem dL_law_1262 : decode cL_law 1262 = .ok (.invokevirtual 149, 3) := by decide +kernel
theorem dL_law_1265 : decode cL_law 1265 = .ok (.if_icmp .eq 247, 3) := by decide +kernel
theorem dL_law_1268 : decode cL_law 1268 = .ok (.iconst 0, 1) := by decide +kernel
theorem dL_law_1269 : decode cL_law 1269 = .ok (.ireturn, 1) := by decide +kernel
theorem dL_law_1270 : decode cL_law 1270 = .ok (.aload_n 1, 1) := by decide +kernel
theorem dL_law_1271 : decode cL_law 1271 = .ok (.aload_n 0, 1) := by decide +kernel
theorem dL_law_1272 : decode cL_law 1272 = .ok (.iload 4, 2) := by decide +kernel
theorem dL_law_1274 : decode cL_law 1274 = .ok (.iconst 1, 1) := by decide +kernel
theorem dL_law_1275 : decode cL_law 1275 = .ok (.iadd, 1) := by decide +kernel
theorem dL_law_1276 : decode cL_law 1276 = .ok (.iaload, 1) := by decide +kernel
theorem dL_law_1277 : decode cL_law 1277 = .ok (.ifCond .eq 7, 3) := by decide +kernel
theorem dL_law_1280 : decode cL_law 1280 = .ok (.iconst 1, 1) := by decide +kernel
theorem dL_law_1281 : decode cL_law 1281 = .ok (.goto 4, 3) := by decide +kernel
theorem dL_law_1284 : decode cL_law 1284 = .ok (.iconst 0, 1) := by decide +kernel
theorem dL_law_1285 : decode cL_law 1285 = .ok (.invokevirtual 150, 3) := by decide +kernel
theorem dL_law_1288 : decode cL_law 1288 = .ok (.aload_n 2, 1) := by decide +kernel
theorem dL_law_1289 : decode cL_law 1289 = .ok (.aload_n 0, 1) := by decide +kernel
theorem dL_law_1290 : decode cL_law 1290 = .ok (.iload 4, 2) := by decide +kernel
theorem dL_law_1292 : decode cL_law 1292 = .ok (.iconst 1, 1) := by decide +kernel
theorem dL_law_1293 : decode cL_law 1293 = .ok (.iadd, 1) := by decide +kernel
theorem dL_law_1294 : decode cL_law 1294 = .ok (.iaload, 1) := by decide +kernel
theorem dL_law_1295 : decode cL_law 1295 = .ok (.ifCond .eq 7, 3) := by decide +kernel
theorem dL_law_1298 : decode cL_law 1298 = .ok (.iconst 1, 1) := by decide +kernel
theorem dL_law_1299 : decode cL_law 1299 = .ok (.goto 4, 3) := by decide +kernel
theorem dL_law_1302 : decode cL_law 1302 = .ok (.iconst 0, 1) := by decide +kernel
theorem dL_law_1303 : decode cL_law 1303 = .ok (.invokevirtual 153, 3) := by decide +kernel
theorem dL_law_1306 : decode cL_law 1306 = .ok (.if_icmp .eq 206, 3) := by decide +kernel
theorem dL_law_1309 : decode cL_law 1309 = .ok (.iconst 0, 1) := by decide +kernel
theorem dL_law_1310 : decode cL_law 1310 = .ok (.ireturn, 1) := by decide +kernel
theorem dL_law_1311 : decode cL_law 1311 = .ok (.aload_n 1, 1) := by decide +kernel
theorem dL_law_1312 : decode cL_law 1312 = .ok (.aload_n 0, 1) := by decide +kernel
theorem dL_law_1313 : decode cL_law 1313 = .ok (.iload 4, 2) := by decide +kernel
theorem dL_law_1315 : decode cL_law 1315 = .ok (.iconst 1, 1) := by decide +kernel
theorem dL_law_1316 : decode cL_law 1316 = .ok (.iadd, 1) := by decide +kernel
theorem dL_law_1317 : decode cL_law 1317 = .ok (.iaload, 1) := by decide +kernel
theorem dL_law_1318 : decode cL_law 1318 = .ok (.aload_n 0, 1) := by decide +kernel
theorem dL_law_1319 : decode cL_law 1319 = .ok (.iload 4, 2) := by decide +kernel
theorem dL_law_1321 : decode cL_law 1321 = .ok (.iconst 2, 1) := by decide +kernel
theorem dL_law_1322 : decode cL_law 1322 = .ok (.iadd, 1) := by decide +kernel
theorem dL_law_1323 : decode cL_law 1323 = .ok (.iaload, 1) := by decide +kernel
theorem dL_law_1324 : decode cL_law 1324 = .ok (.ifCond .eq 7, 3) := by decide +kernel
theorem dL_law_1327 : decode cL_law 1327 = .ok (.iconst 1, 1) := by decide +kernel
theorem dL_law_1328 : decode cL_law 1328 = .ok (.goto 4, 3) := by decide +kernel
theorem dL_law_1331 : decode cL_law 1331 = .ok (.iconst 0, 1) := by decide +kernel
theorem dL_law_1332 : decode cL_law 1332 = .ok (.invokevirtual 154, 3) := by decide +kernel
theorem dL_law_1335 : decode cL_law 1335 = .ok (.aload_n 2, 1) := by decide +kernel
theorem dL_law_1336 : decode cL_law 1336 = .ok (.aload_n 0, 1) := by decide +kernel
theorem dL_law_1337 : decode cL_law 1337 = .ok (.iload 4, 2) := by decide +kernel
theorem dL_law_1339 : decode cL_law 1339 = .ok (.iconst 1, 1) := by decide +kernel
theorem dL_law_1340 : decode cL_law 1340 = .ok (.iadd, 1) := by decide +kernel
theorem dL_law_1341 : decode cL_law 1341 = .ok (.iaload, 1) := by decide +kernel
theorem dL_law_1342 : decode cL_law 1342 = .ok (.aload_n 0, 1) := by decide +kernel
theorem dL_law_1343 : decode cL_law 1343 = .ok (.iload 4, 2) := by decide +kernel
theorem dL_law_1345 : decode cL_law 1345 = .ok (.iconst 2, 1) := by decide +kernel
theorem dL_law_1346 : decode cL_law 1346 = .ok (.iadd, 1) := by decide +kernel
theorem dL_law_1347 : decode cL_law 1347 = .ok (.iaload, 1) := by decide +kernel
theorem dL_law_1348 : decode cL_law 1348 = .ok (.ifCond .eq 7, 3) := by decide +kernel
theorem dL_law_1351 : decode cL_law 1351 = .ok (.iconst 1, 1) := by decide +kernel
theorem dL_law_1352 : decode cL_law 1352 = .ok (.goto 4, 3) := by decide +kernel
theorem dL_law_1355 : decode cL_law 1355 = .ok (.iconst 0, 1) := by decide +kernel
theorem dL_law_1356 : decode cL_law 1356 = .ok (.invokevirtual 157, 3) := by decide +kernel
theorem dL_law_1359 : decode cL_law 1359 = .ok (.if_icmp .eq 153, 3) := by decide +kernel
theorem dL_law_1362 : decode cL_law 1362 = .ok (.iconst 0, 1) := by decide +kernel
theorem dL_law_1363 : decode cL_law 1363 = .ok (.ireturn, 1) := by decide +kernel
theorem dL_law_1364 : decode cL_law 1364 = .ok (.aload_n 1, 1) := by decide +kernel
theorem dL_law_1365 : decode cL_law 1365 = .ok (.aload_n 0, 1) := by decide +kernel
theorem dL_law_1366 : decode cL_law 1366 = .ok (.iload 4, 2) := by decide +kernel
theorem dL_law_1368 : decode cL_law 1368 = .ok (.iconst 1, 1) := by decide +kernel
theorem dL_law_1369 : decode cL_law 1369 = .ok (.iadd, 1) := by decide +kernel
theorem dL_law_1370 : decode cL_law 1370 = .ok (.iaload, 1) := by decide +kernel
theorem dL_law_1371 : decode cL_law 1371 = .ok (.aload_n 0, 1) := by decide +kernel
theorem dL_law_1372 : decode cL_law 1372 = .ok (.iload 4, 2) := by decide +kernel
theorem dL_law_1374 : decode cL_law 1374 = .ok (.iconst 2, 1) := by decide +kernel
theorem dL_law_1375 : decode cL_law 1375 = .ok (.iadd, 1) := by decide +kernel
theorem dL_law_1376 : decode cL_law 1376 = .ok (.iaload, 1) := by decide +kernel
theorem dL_law_1377 : decode cL_law 1377 = .ok (.aload_n 0, 1) := by decide +kernel
theorem dL_law_1378 : decode cL_law 1378 = .ok (.iload 4, 2) := by decide +kernel
theorem dL_law_1380 : decode cL_law 1380 = .ok (.iconst 3, 1) := by decide +kernel
theorem dL_law_1381 : decode cL_law 1381 = .ok (.iadd, 1) := by decide +kernel
theorem dL_law_1382 : decode cL_law 1382 = .ok (.iaload, 1) := by decide +kernel
theorem dL_law_1383 : decode cL_law 1383 = .ok (.aload_n 0, 1) := by decide +kernel
theorem dL_law_1384 : decode cL_law 1384 = .ok (.iload 4, 2) := by decide +kernel
theorem dL_law_1386 : decode cL_law 1386 = .ok (.iconst 4, 1) := by decide +kernel
theorem dL_law_1387 : decode cL_law 1387 = .ok (.iadd, 1) := by decide +kernel
theorem dL_law_1388 : decode cL_law 1388 = .ok (.iaload, 1) := by decide +kernel
theorem dL_law_1389 : decode cL_law 1389 = .ok (.invokevirtual 158, 3) := by decide +kernel
theorem dL_law_1392 : decode cL_law 1392 = .ok (.aload_n 2, 1) := by decide +kernel
theorem dL_law_1393 : decode cL_law 1393 = .ok (.aload_n 0, 1) := by decide +kernel
theorem dL_law_1394 : decode cL_law 1394 = .ok (.iload 4, 2) := by decide +kernel
theorem dL_law_1396 : decode cL_law 1396 = .ok (.iconst 1, 1) := by decide +kernel
theorem dL_law_1397 : decode cL_law 1397 = .ok (.iadd, 1) := by decide +kernel
theorem dL_law_1398 : decode cL_law 1398 = .ok (.iaload, 1) := by decide +kernel
theorem dL_law_1399 : decode cL_law 1399 = .ok (.aload_n 0, 1) := by decide +kernel
theorem dL_law_1400 : decode cL_law 1400 = .ok (.iload 4, 2) := by decide +kernel
theorem dL_law_1402 : decode cL_law 1402 = .ok (.iconst 2, 1) := by decide +kernel
theorem dL_law_1403 : decode cL_law 1403 = .ok (.iadd, 1) := by decide +kernel
theorem dL_law_1404 : decode cL_law 1404 = .ok (.iaload, 1) := by decide +kernel
theorem dL_law_1405 : decode cL_law 1405 = .ok (.aload_n 0, 1) := by decide +kernel
theorem dL_law_1406 : decode cL_law 1406 = .ok (.iload 4, 2) := by decide +kernel
theorem dL_law_1408 : decode cL_law 1408 = .ok (.iconst 3, 1) := by decide +kernel
theorem dL_law_1409 : decode cL_law 1409 = .ok (.iadd, 1) := by decide +kernel
theorem dL_law_1410 : decode cL_law 1410 = .ok (.iaload, 1) := by decide +kernel
theorem dL_law_1411 : decode cL_law 1411 = .ok (.aload_n 0, 1) := by decide +kernel
theorem dL_law_1412 : decode cL_law 1412 = .ok (.iload 4, 2) := by decide +kernel
theorem dL_law_1414 : decode cL_law 1414 = .ok (.iconst 4, 1) := by decide +kernel
theorem dL_law_1415 : decode cL_law 1415 = .ok (.iadd, 1) := by decide +kernel
theorem dL_law_1416 : decode cL_law 1416 = .ok (.iaload, 1) := by decide +kernel
theorem dL_law_1417 : decode cL_law 1417 = .ok (.invokevirtual 161, 3) := by decide +kernel
theorem dL_law_1420 : decode cL_law 1420 = .ok (.if_icmp .eq 92, 3) := by decide +kernel
theorem dL_law_1423 : decode cL_law 1423 = .ok (.iconst 0, 1) := by decide +kernel
theorem dL_law_1424 : decode cL_law 1424 = .ok (.ireturn, 1) := by decide +kernel
theorem dL_law_1425 : decode cL_law 1425 = .ok (.aload_n 1, 1) := by decide +kernel
theorem dL_law_1426 : decode cL_law 1426 = .ok (.aload_n 0, 1) := by decide +kernel
theorem dL_law_1427 : decode cL_law 1427 = .ok (.iload 4, 2) := by decide +kernel
theorem dL_law_1429 : decode cL_law 1429 = .ok (.iconst 1, 1) := by decide +kernel
theorem dL_law_1430 : decode cL_law 1430 = .ok (.iadd, 1) := by decide +kernel
theorem dL_law_1431 : decode cL_law 1431 = .ok (.iaload, 1) := by decide +kernel
theorem dL_law_1432 : decode cL_law 1432 = .ok (.aload_n 0, 1) := by decide +kernel
theorem dL_law_1433 : decode cL_law 1433 = .ok (.iload 4, 2) := by decide +kernel
theorem dL_law_1435 : decode cL_law 1435 = .ok (.iconst 2, 1) := by decide +kernel
theorem dL_law_1436 : decode cL_law 1436 = .ok (.iadd, 1) := by decide +kernel
theorem dL_law_1437 : decode cL_law 1437 = .ok (.iaload, 1) := by decide +kernel
theorem dL_law_1438 : decode cL_law 1438 = .ok (.invokevirtual 162, 3) := by decide +kernel
theorem dL_law_1441 : decode cL_law 1441 = .ok (.aload_n 2, 1) := by decide +kernel
theorem dL_law_1442 : decode cL_law 1442 = .ok (.aload_n 0, 1) := by decide +kernel
theorem dL_law_1443 : decode cL_law 1443 = .ok (.iload 4, 2) := by decide +kernel
theorem dL_law_1445 : decode cL_law 1445 = .ok (.iconst 1, 1) := by decide +kernel
theorem dL_law_1446 : decode cL_law 1446 = .ok (.iadd, 1) := by decide +kernel
theorem dL_law_1447 : decode cL_law 1447 = .ok (.iaload, 1) := by decide +kernel
theorem dL_law_1448 : decode cL_law 1448 = .ok (.aload_n 0, 1) := by decide +kernel
theorem dL_law_1449 : decode cL_law 1449 = .ok (.iload 4, 2) := by decide +kernel
theorem dL_law_1451 : decode cL_law 1451 = .ok (.iconst 2, 1) := by decide +kernel
theorem dL_law_1452 : decode cL_law 1452 = .ok (.iadd, 1) := by decide +kernel
theorem dL_law_1453 : decode cL_law 1453 = .ok (.iaload, 1) := by decide +kernel
theorem dL_law_1454 : decode cL_law 1454 = .ok (.invokevirtual 165, 3) := by decide +kernel
theorem dL_law_1457 : decode cL_law 1457 = .ok (.if_icmp .eq 55, 3) := by decide +kernel
theorem dL_law_1460 : decode cL_law 1460 = .ok (.iconst 0, 1) := by decide +kernel
theorem dL_law_1461 : decode cL_law 1461 = .ok (.ireturn, 1) := by decide +kernel
theorem dL_law_1462 : decode cL_law 1462 = .ok (.aload_n 1, 1) := by decide +kernel
theorem dL_law_1463 : decode cL_law 1463 = .ok (.aload_n 0, 1) := by decide +kernel
theorem dL_law_1464 : decode cL_law 1464 = .ok (.iload 4, 2) := by decide +kernel
theorem dL_law_1466 : decode cL_law 1466 = .ok (.iconst 1, 1) := by decide +kernel
theorem dL_law_1467 : decode cL_law 1467 = .ok (.iadd, 1) := by decide +kernel
theorem dL_law_1468 : decode cL_law 1468 = .ok (.iaload, 1) := by decide +kernel
theorem dL_law_1469 : decode cL_law 1469 = .ok (.invokevirtual 166, 3) := by decide +kernel
theorem dL_law_1472 : decode cL_law 1472 = .ok (.aload_n 2, 1) := by decide +kernel
theorem dL_law_1473 : decode cL_law 1473 = .ok (.aload_n 0, 1) := by decide +kernel
theorem dL_law_1474 : decode cL_law 1474 = .ok (.iload 4, 2) := by decide +kernel
theorem dL_law_1476 : decode cL_law 1476 = .ok (.iconst 1, 1) := by decide +kernel
theorem dL_law_1477 : decode cL_law 1477 = .ok (.iadd, 1) := by decide +kernel
theorem dL_law_1478 : decode cL_law 1478 = .ok (.iaload, 1) := by decide +kernel
theorem dL_law_1479 : decode cL_law 1479 = .ok (.invokevirtual 170, 3) := by decide +kernel
theorem dL_law_1482 : decode cL_law 1482 = .ok (.if_icmp .eq 30, 3) := by decide +kernel
theorem dL_law_1485 : decode cL_law 1485 = .ok (.iconst 0, 1) := by decide +kernel
theorem dL_law_1486 : decode cL_law 1486 = .ok (.ireturn, 1) := by decide +kernel
theorem dL_law_1487 : decode cL_law 1487 = .ok (.aload_n 1, 1) := by decide +kernel
theorem dL_law_1488 : decode cL_law 1488 = .ok (.aload_n 0, 1) := by decide +kernel
theorem dL_law_1489 : decode cL_law 1489 = .ok (.iload 4, 2) := by decide +kernel
theorem dL_law_1491 : decode cL_law 1491 = .ok (.iconst 1, 1) := by decide +kernel
theorem dL_law_1492 : decode cL_law 1492 = .ok (.iadd, 1) := by decide +kernel
theorem dL_law_1493 : decode cL_law 1493 = .ok (.iaload, 1) := by decide +kernel
theorem dL_law_1494 : decode cL_law 1494 = .ok (.invokevirtual 171, 3) := by decide +kernel
theorem dL_law_1497 : decode cL_law 1497 = .ok (.aload_n 2, 1) := by decide +kernel
theorem dL_law_1498 : decode cL_law 1498 = .ok (.aload_n 0, 1) := by decide +kernel
theorem dL_law_1499 : decode cL_law 1499 = .ok (.iload 4, 2) := by decide +kernel
theorem dL_law_1501 : decode cL_law 1501 = .ok (.iconst 1, 1) := by decide +kernel
theorem dL_law_1502 : decode cL_law 1502 = .ok (.iadd, 1) := by decide +kernel
theorem dL_law_1503 : decode cL_law 1503 = .ok (.iaload, 1) := by decide +kernel
theorem dL_law_1504 : decode cL_law 1504 = .ok (.invokevirtual 174, 3) := by decide +kernel
theorem dL_law_1507 : decode cL_law 1507 = .ok (.if_icmp .eq 5, 3) := by decide +kernel
theorem dL_law_1510 : decode cL_law 1510 = .ok (.iconst 0, 1) := by decide +kernel
theorem dL_law_1511 : decode cL_law 1511 = .ok (.ireturn, 1) := by decide +kernel
theorem dL_law_1512 : decode cL_law 1512 = .ok (.iinc 4 6, 3) := by decide +kernel
theorem dL_law_1515 : decode cL_law 1515 = .ok (.goto (-1492), 3) := by decide +kernel
theorem dL_law_1518 : decode cL_law 1518 = .ok (.iconst 1, 1) := by decide +kernel
theorem dL_law_1519 : decode cL_law 1519 = .ok (.ireturn, 1) := by decide +kernel
abbrev vwCl : List vw_C := [(RX0, TX0, 1), (RX1, TX1, 13), (RX2, TX2, 6), (RX3, TX3, 6), (RX4, TX4, 3), (RX5, TX5, 13), (RX6, TX6, 7), (RX8, TX8, 4), (RX9, TX9, 3), (RX10, TX10, 14), (RX11, TX11, 30)]
