theorem dX11_order_48 : decode cX11_order 48 = .ok (.ireturn, 1) := by decide +kernel
theorem dX11_order_49 : decode cX11_order 49 = .ok (.aload_n 0, 1) := by decide +kernel
theorem dX11_order_50 : decode cX11_order 50 = .ok (.invokevirtual 305, 3) := by decide +kernel
theorem dX11_order_53 : decode cX11_order 53 = .ok (.iconst (-1), 1) := by decide +kernel
theorem dX11_order_54 : decode cX11_order 54 = .ok (.istore_n 3, 1) := by decide +kernel
theorem dX11_order_55 : decode cX11_order 55 = .ok (.iconst 1, 1) := by decide +kernel
theorem dX11_order_56 : decode cX11_order 56 = .ok (.istore 4, 2) := by decide +kernel
theorem dX11_order_58 : decode cX11_order 58 = .ok (.iload 4, 2) := by decide +kernel
theorem dX11_order_60 : decode cX11_order 60 = .ok (.ifCond .eq 75, 3) := by decide +kernel
theorem dX11_order_63 : decode cX11_order 63 = .ok (.aload_n 0, 1) := by decide +kernel
theorem dX11_order_64 : decode cX11_order 64 = .ok (.iconst 0, 1) := by decide +kernel
theorem dX11_order_65 : decode cX11_order 65 = .ok (.iload_n 1, 1) := by decide +kernel
theorem dX11_order_66 : decode cX11_order 66 = .ok (.iconst 0, 1) := by decide +kernel
theorem dX11_order_67 : decode cX11_order 67 = .ok (.invokevirtual 308, 3) := by decide +kernel
theorem dX11_order_70 : decode cX11_order 70 = .ok (.aload_n 0, 1) := by decide +kernel
theorem dX11_order_71 : decode cX11_order 71 = .ok (.iload_n 1, 1) := by decide +kernel
theorem dX11_order_72 : decode cX11_order 72 = .ok (.iconst 3, 1) := by decide +kernel
theorem dX11_order_73 : decode cX11_order 73 = .ok (.invokevirtual 315, 3) := by decide +kernel
theorem dX11_order_76 : decode cX11_order 76 = .ok (.istore 5, 2) := by decide +kernel
theorem dX11_order_78 : decode cX11_order 78 = .ok (.iload_n 3, 1) := by decide +kernel
theorem dX11_order_79 : decode cX11_order 79 = .ok (.iconst (-1), 1) := by decide +kernel
theorem dX11_order_80 : decode cX11_order 80 = .ok (.if_icmp .eq 9, 3) := by decide +kernel
theorem dX11_order_83 : decode cX11_order 83 = .ok (.iload 5, 2) := by decide +kernel
theorem dX11_order_85 : decode cX11_order 85 = .ok (.iload_n 3, 1) := by decide +kernel
theorem dX11_order_86 : decode cX11_order 86 = .ok (.if_icmp .ge 40, 3) := by decide +kernel
theorem dX11_order_89 : decode cX11_order 89 = .ok (.iload 5, 2) := by decide +kernel
theorem dX11_order_91 : decode cX11_order 91 = .ok (.istore_n 3, 1) := by decide +kernel
theorem dX11_order_92 : decode cX11_order 92 = .ok (.iconst 0, 1) := by decide +kernel
theorem dX11_order_93 : decode cX11_order 93 = .ok (.istore 6, 2) := by decide +kernel
theorem dX11_order_95 : decode cX11_order 95 = .ok (.iload 6, 2) := by decide +kernel
theorem dX11_order_97 : decode cX11_order 97 = .ok (.aload_n 0, 1) := by decide +kernel
theorem dX11_order_98 : decode cX11_order 98 = .ok (.getfield 7, 3) := by decide +kernel
theorem dX11_order_101 : decode cX11_order 101 = .ok (.iconst 0, 1) := by decide +kernel
theorem dX11_order_102 : decode cX11_order 102 = .ok (.iaload, 1) := by decide +kernel
theorem dX11_order_103 : decode cX11_order 103 = .ok (.if_icmp .ge 23, 3) := by decide +kernel
theorem dX11_order_106 : decode cX11_order 106 = .ok (.aload_n 0, 1) := by decide +kernel
theorem dX11_order_107 : decode cX11_order 107 = .ok (.getfield 51, 3) := by decide +kernel
theorem dX11_order_110 : decode cX11_order 110 = .ok (.iload 6, 2) := by decide +kernel
theorem dX11_order_112 : decode cX11_order 112 = .ok (.aload_n 0, 1) := by decide +kernel
theorem dX11_order_113 : decode cX11_order 113 = .ok (.getfield 48, 3) := by decide +kernel
theorem dX11_order_116 : decode cX11_order 116 = .ok (.iload 6, 2) := by decide +kernel
theorem dX11_order_118 : decode cX11_order 118 = .ok (.iaload, 1) := by decide +kernel
theorem dX11_order_119 : decode cX11_order 119 = .ok (.iastore, 1) := by decide +kernel
theorem dX11_order_120 : decode cX11_order 120 = .ok (.iinc 6 1, 3) := by decide +kernel
theorem dX11_order_123 : decode cX11_order 123 = .ok (.goto (-28), 3) := by decide +kernel
theorem dX11_order_126 : decode cX11_order 126 = .ok (.aload_n 0, 1) := by decide +kernel
theorem dX11_order_127 : decode cX11_order 127 = .ok (.invokevirtual 318, 3) := by decide +kernel
theorem dX11_order_130 : decode cX11_order 130 = .ok (.istore 4, 2) := by decide +kernel
theorem dX11_order_132 : decode cX11_order 132 = .ok (.goto (-74), 3) := by decide +kernel
theorem dX11_order_135 : decode cX11_order 135 = .ok (.iload_n 2, 1) := by decide +kernel
theorem dX11_order_136 : decode cX11_order 136 = .ok (.ifCond .ne 7, 3) := by decide +kernel
theorem dX11_order_139 : decode cX11_order 139 = .ok (.iload_n 3, 1) := by decide +kernel
theorem dX11_order_140 : decode cX11_order 140 = .ok (.goto 16, 3) := by decide +kernel
theorem dX11_order_143 : decode cX11_order 143 = .ok (.aload_n 0, 1) := by decide +kernel
theorem dX11_order_144 : decode cX11_order 144 = .ok (.aload_n 0, 1) := by decide +kernel
theorem dX11_order_145 : decode cX11_order 145 = .ok (.getfield 51, 3) := by decide +kernel
theorem dX11_order_148 : decode cX11_order 148 = .ok (.iload_n 2, 1) := by decide +kernel
theorem dX11_order_149 : decode cX11_order 149 = .ok (.bipush 10, 2) := by decide +kernel
theorem dX11_order_151 : decode cX11_order 151 = .ok (.isub, 1) := by decide +kernel
theorem dX11_order_152 : decode cX11_order 152 = .ok (.iaload, 1) := by decide +kernel
theorem dX11_order_153 : decode cX11_order 153 = .ok (.invokevirtual 185, 3) := by decide +kernel
theorem dX11_order_156 : decode cX11_order 156 = .ok (.ireturn, 1) := by decide +kernel
set_option maxRecDepth 20000 in
theorem ggX11_isFit_X11_measure : GoodIn wsX11_isFit wsX11_measure := goodIn_r _ [6] (by decide +kernel) (by decide +kernel)
set_option maxRecDepth 20000 in
theorem gX11_isFit_X11_measure : GoodIn wsX11_isFit (va_wsS RX11 279 yX11_measure wsX11_measure) := goodIn_app (goodIn_of _ (by decide +kernel)) ggX11_isFit_X11_measure
set_option maxRecDepth 20000 in
theorem ggX11_isFit_X11_lesser : GoodIn wsX11_isFit wsX11_lesser := goodIn_r _ [9] (by decide +kernel) (by decide +kernel)
set_option maxRecDepth 20000 in
theorem gX11_isFit_X11_lesser : GoodIn wsX11_isFit (va_wsS RX11 209 yX11_lesser wsX11_lesser) := goodIn_app (goodIn_of _ (by decide +kernel)) ggX11_isFit_X11_lesser
set_option maxRecDepth 20000 in
theorem ggX11_isFit_X11_isBlind : GoodIn wsX11_isFit wsX11_isBlind := goodIn_r _ [13, 2, 14, 15, 5, 16, 17, 18, 19, 20, 21, 22, 23, 24, 25, 26, 27, 28, 29, 30, 31, 32, 33, 34, 35, 36, 37, 38, 39, 40, 41, 42, 43, 44, 45, 46] (by decide +kernel) (by decide +kernel)
set_option maxRecDepth 20000 in
theorem gX11_isFit_X11_isBlind : GoodIn wsX11_isFit (wsV RX11 215 RX11 yX11_isBlind wsX11_isBlind) := goodIn_app (goodIn_of _ (by decide +kernel)) ggX11_isFit_X11_isBlind
theorem dX11_isFit_0 : decode cX11_isFit 0 = .ok (.lconst 1, 1) := by decide +kernel
theorem dX11_isFit_1 : decode cX11_isFit 1 = .ok (.lstore_n 2, 1) := by decide +kernel
theorem dX11_isFit_2 : decode cX11_isFit 2 = .ok (.iconst 0, 1) := by decide +kernel
theorem dX11_isFit_3 : decode cX11_isFit 3 = .ok (.istore 4, 2) := by decide +kernel
theorem dX11_isFit_5 : decode cX11_isFit 5 = .ok (.iload 4, 2) := by decide +kernel
theorem dX11_isFit_7 : decode cX11_isFit 7 = .ok (.iload_n 1, 1) := by decide +kernel
theorem dX11_isFit_8 : decode cX11_isFit 8 = .ok (.if_icmp .ge 33, 3) := by decide +kernel
theorem dX11_isFit_11 : decode cX11_isFit 11 = .ok (.lload_n 2, 1) := by decide +kernel
theorem dX11_isFit_12 : decode cX11_isFit 12 = .ok (.lload_n 2, 1) := by decide +kernel
theorem dX11_isFit_13 : decode cX11_isFit 13 = .ok (.aload_n 0, 1) := by decide +kernel
theorem dX11_isFit_14 : decode cX11_isFit 14 = .ok (.getfield 54, 3) := by decide +kernel
theorem dX11_isFit_17 : decode cX11_isFit 17 = .ok (.iload 4, 2) := by decide +kernel
theorem dX11_isFit_19 : decode cX11_isFit 19 = .ok (.iaload, 1) := by decide +kernel
theorem dX11_isFit_20 : decode cX11_isFit 20 = .ok (.i2l, 1) := by decide +kernel
theorem dX11_isFit_21 : decode cX11_isFit 21 = .ok (.invokestatic 279, 3) := by decide +kernel
theorem dX11_isFit_24 : decode cX11_isFit 24 = .ok (.ldiv, 1) := by decide +kernel
theorem dX11_isFit_25 : decode cX11_isFit 25 = .ok (.aload_n 0, 1) := by decide +kernel
theorem dX11_isFit_26 : decode cX11_isFit 26 = .ok (.getfield 54, 3) := by decide +kernel
theorem dX11_isFit_29 : decode cX11_isFit 29 = .ok (.iload 4, 2) := by decide +kernel
theorem dX11_isFit_31 : decode cX11_isFit 31 = .ok (.iaload, 1) := by decide +kernel
theorem dX11_isFit_32 : decode cX11_isFit 32 = .ok (.i2l, 1) := by decide +kernel
theorem dX11_isFit_33 : decode cX11_isFit 33 = .ok (.lmul, 1) := by decide +kernel
theorem dX11_isFit_34 : decode cX11_isFit 34 = .ok (.lstore_n 2, 1) := by decide +kernel
theorem dX11_isFit_35 : decode cX11_isFit 35 = .ok (.iinc 4 1, 3) := by decide +kernel
theorem dX11_isFit_38 : decode cX11_isFit 38 = .ok (.goto (-33), 3) := by decide +kernel
theorem dX11_isFit_41 : decode cX11_isFit 41 = .ok (.aload_n 0, 1) := by decide +kernel
theorem dX11_isFit_42 : decode cX11_isFit 42 = .ok (.getfield 7, 3) := by decide +kernel
theorem dX11_isFit_45 : decode cX11_isFit 45 = .ok (.bipush 10, 2) := by decide +kernel
theorem dX11_isFit_47 : decode cX11_isFit 47 = .ok (.iaload, 1) := by decide +kernel
theorem dX11_isFit_48 : decode cX11_isFit 48 = .ok (.iload_n 1, 1) := by decide +kernel
theorem dX11_isFit_49 : decode cX11_isFit 49 = .ok (.invokestatic 209, 3) := by decide +kernel
theorem dX11_isFit_52 : decode cX11_isFit 52 = .ok (.istore 4, 2) := by decide +kernel
theorem dX11_isFit_54 : decode cX11_isFit 54 = .ok (.lload_n 2, 1) := by decide +kernel
theorem dX11_isFit_55 : decode cX11_isFit 55 = .ok (.aload_n 0, 1) := by decide +kernel
theorem dX11_isFit_56 : decode cX11_isFit 56 = .ok (.getfield 7, 3) := by decide +kernel
theorem dX11_isFit_59 : decode cX11_isFit 59 = .ok (.bipush 9, 2) := by decide +kernel
theorem dX11_isFit_61 : decode cX11_isFit 61 = .ok (.iaload, 1) := by decide +kernel
theorem dX11_isFit_62 : decode cX11_isFit 62 = .ok (.i2l, 1) := by decide +kernel
theorem dX11_isFit_63 : decode cX11_isFit 63 = .ok (.lcmp, 1) := by decide +kernel
theorem dX11_isFit_64 : decode cX11_isFit 64 = .ok (.ifCond .lt 7, 3) := by decide +kernel
theorem dX11_isFit_67 : decode cX11_isFit 67 = .ok (.iconst 1, 1) := by decide +kernel
theorem dX11_isFit_68 : decode cX11_isFit 68 = .ok (.goto 4, 3) := by decide +kernel
theorem dX11_isFit_71 : decode cX11_isFit 71 = .ok (.iconst 0, 1) := by decide +kernel
theorem dX11_isFit_72 : decode cX11_isFit 72 = .ok (.istore 5, 2) := by decide +kernel
theorem dX11_isFit_74 : decode cX11_isFit 74 = .ok (.iconst 1, 1) := by decide +kernel
theorem dX11_isFit_75 : decode cX11_isFit 75 = .ok (.istore 6, 2) := by decide +kernel
theorem dX11_isFit_77 : decode cX11_isFit 77 = .ok (.iload 6, 2) := by decide +kernel
theorem dX11_isFit_79 : decode cX11_isFit 79 = .ok (.aload_n 0, 1) := by decide +kernel
theorem dX11_isFit_80 : decode cX11_isFit 80 = .ok (.getfield 7, 3) := by decide +kernel
theorem dX11_isFit_83 : decode cX11_isFit 83 = .ok (.bipush 11, 2) := by decide +kernel
theorem dX11_isFit_85 : decode cX11_isFit 85 = .ok (.iaload, 1) := by decide +kernel
theorem dX11_isFit_86 : decode cX11_isFit 86 = .ok (.if_icmp .gt 72, 3) := by decide +kernel
theorem dX11_isFit_89 : decode cX11_isFit 89 = .ok (.iload 5, 2) := by decide +kernel
theorem dX11_isFit_91 : decode cX11_isFit 91 = .ok (.ifCond .eq 67, 3) := by decide +kernel
theorem dX11_isFit_94 : decode cX11_isFit 94 = .ok (.iconst 0, 1) := by decide +kernel
theorem dX11_isFit_95 : decode cX11_isFit 95 = .ok (.istore 7, 2) := by decide +kernel
theorem dX11_isFit_97 : decode cX11_isFit 97 = .ok (.iconst 0, 1) := by decide +kernel
theorem dX11_isFit_98 : decode cX11_isFit 98 = .ok (.istore 8, 2) := by decide +kernel
theorem dX11_isFit_100 : decode cX11_isFit 100 = .ok (.iload 8, 2) := by decide +kernel
theorem dX11_isFit_102 : decode cX11_isFit 102 = .ok (.iload_n 1, 1) := by decide +kernel
theorem dX11_isFit_103 : decode cX11_isFit 103 = .ok (.if_icmp .ge 35, 3) := by decide +kernel
theorem dX11_isFit_106 : decode cX11_isFit 106 = .ok (.iload 7, 2) := by decide +kernel
theorem dX11_isFit_108 : decode cX11_isFit 108 = .ok (.aload_n 0, 1) := by decide +kernel
theorem dX11_isFit_109 : decode cX11_isFit 109 = .ok (.iload 6, 2) := by decide +kernel
theorem dX11_isFit_111 : decode cX11_isFit 111 = .ok (.aload_n 0, 1) := by decide +kernel
theorem dX11_isFit_112 : decode cX11_isFit 112 = .ok (.getfield 54, 3) := by decide +kernel
theorem dX11_isFit_115 : decode cX11_isFit 115 = .ok (.iload 8, 2) := by decide +kernel
theorem dX11_isFit_117 : decode cX11_isFit 117 = .ok (.iaload, 1) := by decide +kernel
theorem dX11_isFit_118 : decode cX11_isFit 118 = .ok (.invokevirtual 215, 3) := by decide +kernel
theorem dX11_isFit_121 : decode cX11_isFit 121 = .ok (.ifCond .eq 7, 3) := by decide +kernel
theorem dX11_isFit_124 : decode cX11_isFit 124 = .ok (.iconst 0, 1) := by decide +kernel
theorem dX11_isFit_125 : decode cX11_isFit 125 = .ok (.goto 4, 3) := by decide +kernel
theorem dX11_isFit_128 : decode cX11_isFit 128 = .ok (.iconst 1, 1) := by decide +kernel
theorem dX11_isFit_129 : decode cX11_isFit 129 = .ok (.iadd, 1) := by decide +kernel
theorem dX11_isFit_130 : decode cX11_isFit 130 = .ok (.istore 7, 2) := by decide +kernel
theorem dX11_isFit_132 : decode cX11_isFit 132 = .ok (.iinc 8 1, 3) := by decide +kernel
theorem dX11_isFit_135 : decode cX11_isFit 135 = .ok (.goto (-35), 3) := by decide +kernel
theorem dX11_isFit_138 : decode cX11_isFit 138 = .ok (.iload 7, 2) := by decide +kernel
theorem dX11_isFit_140 : decode cX11_isFit 140 = .ok (.iload 4, 2) := by decide +kernel
theorem dX11_isFit_142 : decode cX11_isFit 142 = .ok (.if_icmp .lt 7, 3) := by decide +kernel
theorem dX11_isFit_145 : decode cX11_isFit 145 = .ok (.iconst 1, 1) := by decide +kernel
theorem dX11_isFit_146 : decode cX11_isFit 146 = .ok (.goto 4, 3) := by decide +kernel
theorem dX11_isFit_149 : decode cX11_isFit 149 = .ok (.iconst 0, 1) := by decide +kernel
theorem dX11_isFit_150 : decode cX11_isFit 150 = .ok (.istore 5, 2) := by decide +kernel
theorem dX11_isFit_152 : decode cX11_isFit 152 = .ok (.iinc 6 1, 3) := by decide +kernel
theorem dX11_isFit_155 : decode cX11_isFit 155 = .ok (.goto (-78), 3) := by decide +kernel
theorem dX11_isFit_158 : decode cX11_isFit 158 = .ok (.iload 5, 2) := by decide +kernel
theorem dX11_isFit_160 : decode cX11_isFit 160 = .ok (.ireturn, 1) := by decide +kernel
theorem dX11_nextChosen_0 : decode cX11_nextChosen 0 = .ok (.iload_n 1, 1) := by decide +kernel
theorem dX11_nextChosen_1 : decode cX11_nextChosen 1 = .ok (.iconst 1, 1) := by decide +kernel
theorem dX11_nextChosen_2 : decode cX11_nextChosen 2 = .ok (.isub, 1) := by decide +kernel
theorem dX11_nextChosen_3 : decode cX11_nextChosen 3 = .ok (.istore_n 3, 1) := by decide +kernel
theorem dX11_nextChosen_4 : decode cX11_nextChosen 4 = .ok (.iload_n 3, 1) := by decide +kernel
theorem dX11_nextChosen_5 : decode cX11_nextChosen 5 = .ok (.ifCond .lt 25, 3) := by decide +kernel
theorem dX11_nextChosen_8 : decode cX11_nextChosen 8 = .ok (.aload_n 0, 1) := by decide +kernel
theorem dX11_nextChosen_9 : decode cX11_nextChosen 9 = .ok (.getfield 54, 3) := by decide +kernel
theorem dX11_nextChosen_12 : decode cX11_nextChosen 12 = .ok (.iload_n 3, 1) := by decide +kernel
theorem dX11_nextChosen_13 : decode cX11_nextChosen 13 = .ok (.iaload, 1) := by decide +kernel
theorem dX11_nextChosen_14 : decode cX11_nextChosen 14 = .ok (.iload_n 2, 1) := by decide +kernel
theorem dX11_nextChosen_15 : decode cX11_nextChosen 15 = .ok (.iload_n 1, 1) := by decide +kernel
theorem dX11_nextChosen_16 : decode cX11_nextChosen 16 = .ok (.iconst 1, 1) := by decide +kernel
theorem dX11_nextChosen_17 : decode cX11_nextChosen 17 = .ok (.isub, 1) := by decide +kernel
theorem dX11_nextChosen_18 : decode cX11_nextChosen 18 = .ok (.iload_n 3, 1) := by decide +kernel
theorem dX11_nextChosen_19 : decode cX11_nextChosen 19 = .ok (.isub, 1) := by decide +kernel
theorem dX11_nextChosen_20 : decode cX11_nextChosen 20 = .ok (.isub, 1) := by decide +kernel
theorem dX11_nextChosen_21 : decode cX11_nextChosen 21 = .ok (.if_icmp .ne 9, 3) := by decide +kernel
theorem dX11_nextChosen_24 : decode cX11_nextChosen 24 = .ok (.iinc 3 (-1), 3) := by decide +kernel
theorem dX11_nextChosen_27 : decode cX11_nextChosen 27 = .ok (.goto (-23), 3) := by decide +kernel
theorem dX11_nextChosen_30 : decode cX11_nextChosen 30 = .ok (.iload_n 3, 1) := by decide +kernel
theorem dX11_nextChosen_31 : decode cX11_nextChosen 31 = .ok (.ifCond .ge 5, 3) := by decide +kernel
theorem dX11_nextChosen_34 : decode cX11_nextChosen 34 = .ok (.iconst 0, 1) := by decide +kernel
theorem dX11_nextChosen_35 : decode cX11_nextChosen 35 = .ok (.ireturn, 1) := by decide +kernel
theorem dX11_nextChosen_36 : decode cX11_nextChosen 36 = .ok (.aload_n 0, 1) := by decide +kernel
theorem dX11_nextChosen_37 : decode cX11_nextChosen 37 = .ok (.getfield 54, 3) := by decide +kernel
theorem dX11_nextChosen_40 : decode cX11_nextChosen 40 = .ok (.iload_n 3, 1) := by decide +kernel
theorem dX11_nextChosen_41 : decode cX11_nextChosen 41 = .ok (.dup2, 1) := by decide +kernel
theorem dX11_nextChosen_42 : decode cX11_nextChosen 42 = .ok (.iaload, 1) := by decide +kernel
theorem dX11_nextChosen_43 : decode cX11_nextChosen 43 = .ok (.iconst 1, 1) := by decide +kernel
theorem dX11_nextChosen_44 : decode cX11_nextChosen 44 = .ok (.iadd, 1) := by decide +kernel
theorem dX11_nextChosen_45 : decode cX11_nextChosen 45 = .ok (.iastore, 1) := by decide +kernel
theorem dX11_nextChosen_46 : decode cX11_nextChosen 46 = .ok (.iload_n 3, 1) := by decide +kernel
theorem dX11_nextChosen_47 : decode cX11_nextChosen 47 = .ok (.iconst 1, 1) := by decide +kernel
theorem dX11_nextChosen_48 : decode cX11_nextChosen 48 = .ok (.iadd, 1) := by decide +kernel
theorem dX11_nextChosen_49 : decode cX11_nextChosen 49 = .ok (.istore 4, 2) := by decide +kernel
theorem dX11_nextChosen_51 : decode cX11_nextChosen 51 = .ok (.iload 4, 2) := by decide +kernel
theorem dX11_nextChosen_53 : decode cX11_nextChosen 53 = .ok (.iload_n 1, 1) := by decide +kernel
theorem dX11_nextChosen_54 : decode cX11_nextChosen 54 = .ok (.if_icmp .ge 27, 3) := by decide +kernel
theorem dX11_nextChosen_57 : decode cX11_nextChosen 57 = .ok (.aload_n 0, 1) := by decide +kernel
theorem dX11_nextChosen_58 : decode cX11_nextChosen 58 = .ok (.getfield 54, 3) := by decide +kernel
theorem dX11_nextChosen_61 : decode cX11_nextChosen 61 = .ok (.iload 4, 2) := by decide +kernel
theorem dX11_nextChosen_63 : decode cX11_nextChosen 63 = .ok (.aload_n 0, 1) := by decide +kernel
theorem dX11_nextChosen_64 : decode cX11_nextChosen 64 = .ok (.getfield 54, 3) := by decide +kernel
theorem dX11_nextChosen_67 : decode cX11_nextChosen 67 = .ok (.iload 4, 2) := by decide +kernel
theorem dX11_nextChosen_69 : decode cX11_nextChosen 69 = .ok (.iconst 1, 1) := by decide +kernel
theorem dX11_nextChosen_70 : decode cX11_nextChosen 70 = .ok (.isub, 1) := by decide +kernel
theorem dX11_nextChosen_71 : decode cX11_nextChosen 71 = .ok (.iaload, 1) := by decide +kernel
theorem dX11_nextChosen_72 : decode cX11_nextChosen 72 = .ok (.iconst 1, 1) := by decide +kernel
theorem dX11_nextChosen_73 : decode cX11_nextChosen 73 = .ok (.iadd, 1) := by decide +kernel
theorem dX11_nextChosen_74 : decode cX11_nextChosen 74 = .ok (.iastore, 1) := by decide +kernel
theorem dX11_nextChosen_75 : decode cX11_nextChosen 75 = .ok (.iinc 4 1, 3) := by decide +kernel
theorem dX11_nextChosen_78 : decode cX11_nextChosen 78 = .ok (.goto (-27), 3) := by decide +kernel
theorem dX11_nextChosen_81 : decode cX11_nextChosen 81 = .ok (.iconst 1, 1) := by decide +kernel
theorem dX11_nextChosen_82 : decode cX11_nextChosen 82 = .ok (.ireturn, 1) := by decide +kernel
set_option maxRecDepth 20000 in
theorem ggX11_choose_X11_in : GoodIn wsX11_choose wsX11_in := goodIn_r _ [7] (by decide +kernel) (by decide +kernel)
set_option maxRecDepth 20000 in
theorem gX11_choose_X11_in : GoodIn wsX11_choose (va_wsS RX11 70 yX11_in wsX11_in) := goodIn_app (goodIn_of _ (by decide +kernel)) ggX11_choose_X11_in
set_option maxRecDepth 20000 in
theorem ggX11_choose_X11_lesser : GoodIn wsX11_choose wsX11_lesser := goodIn_r _ [10] (by decide +kernel) (by decide +kernel)
set_option maxRecDepth 20000 in
theorem gX11_choose_X11_lesser : GoodIn wsX11_choose (va_wsS RX11 209 yX11_lesser wsX11_lesser) := goodIn_app (goodIn_of _ (by decide +kernel)) ggX11_choose_X11_lesser
set_option maxRecDepth 20000 in
theorem ggX11_choose_X11_isFit : GoodIn wsX11_choose wsX11_isFit := goodIn_r _ [14, 2, 15, 16, 17, 6, 18, 8, 9, 10, 19, 20, 21, 22, 23, 24, 25, 30, 31, 32, 33, 34, 35, 36, 37, 38, 39, 40, 41, 42, 43, 44, 45, 46, 47, 48, 49, 50, 51, 52, 53, 54, 55, 56, 57, 58, 59] (by decide +kernel) (by decide +kernel)
set_option maxRecDepth 20000 in
theorem gX11_choose_X11_isFit : GoodIn wsX11_choose (wsV RX11 321 RX11 yX11_isFit wsX11_isFit) := goodIn_app (goodIn_of _ (by decide +kernel)) ggX11_choose_X11_isFit
set_option maxRecDepth 20000 in
theorem ggX11_choose_X11_nextChosen : GoodIn wsX11_choose wsX11_nextChosen := goodIn_r _ [29, 2, 30, 31, 32, 33, 34, 35, 36, 37, 38, 39, 40, 41, 42, 43, 44, 45, 46, 47, 48, 49, 50, 51, 52, 53, 54, 55, 56, 57, 58, 59] (by decide +kernel) (by decide +kernel)
set_option maxRecDepth 20000 in
theorem gX11_choose_X11_nextChosen : GoodIn wsX11_choose (wsV RX11 324 RX11 yX11_nextChosen wsX11_nextChosen) := goodIn_app (goodIn_of _ (by decide +kernel)) ggX11_choose_X11_nextChosen
theorem dX11_choose_0 : decode cX11_choose 0 = .ok (.aload_n 0, 1) := by decide +kernel
theorem dX11_choose_1 : decode cX11_choose 1 = .ok (.iconst 0, 1) := by decide +kernel
theorem dX11_choose_2 : decode cX11_choose 2 = .ok (.putfield 66, 3) := by decide +kernel
theorem dX11_choose_5 : decode cX11_choose 5 = .ok (.iload_n 1, 1) := by decide +kernel
theorem dX11_choose_6 : decode cX11_choose 6 = .ok (.iconst 2, 1) := by decide +kernel
theorem dX11_choose_7 : decode cX11_choose 7 = .ok (.iconst 4, 1) := by decide +kernel
theorem dX11_choose_8 : decode cX11_choose 8 = .ok (.invokestatic 70, 3) := by decide +kernel
theorem dX11_choose_11 : decode cX11_choose 11 = .ok (.ifCond .eq 55, 3) := by decide +kernel
theorem dX11_choose_14 : decode cX11_choose 14 = .ok (.iload_n 2, 1) := by decide +kernel
theorem dX11_choose_15 : decode cX11_choose 15 = .ok (.iconst 4, 1) := by decide +kernel
theorem dX11_choose_16 : decode cX11_choose 16 = .ok (.bipush 60, 2) := by decide +kernel
theorem dX11_choose_18 : decode cX11_choose 18 = .ok (.invokestatic 70, 3) := by decide +kernel
theorem dX11_choose_21 : decode cX11_choose 21 = .ok (.ifCond .eq 45, 3) := by decide +kernel
theorem dX11_choose_24 : decode cX11_choose 24 = .ok (.iload_n 3, 1) := by decide +kernel
theorem dX11_choose_25 : decode cX11_choose 25 = .ok (.iload_n 2, 1) := by decide +kernel
theorem dX11_choose_26 : decode cX11_choose 26 = .ok (.bipush 60, 2) := by decide +kernel
theorem dX11_choose_28 : decode cX11_choose 28 = .ok (.iload_n 2, 1) := by decide +kernel
theorem dX11_choose_29 : decode cX11_choose 29 = .ok (.bipush 20, 2) := by decide +kernel
theorem dX11_choose_31 : decode cX11_choose 31 = .ok (.iadd, 1) := by decide +kernel
theorem dX11_choose_32 : decode cX11_choose 32 = .ok (.invokestatic 209, 3) := by decide +kernel
theorem dX11_choose_35 : decode cX11_choose 35 = .ok (.invokestatic 70, 3) := by decide +kernel
theorem dX11_choose_38 : decode cX11_choose 38 = .ok (.ifCond .eq 28, 3) := by decide +kernel
theorem dX11_choose_41 : decode cX11_choose 41 = .ok (.iload 4, 2) := by decide +kernel
theorem dX11_choose_43 : decode cX11_choose 43 = .ok (.iconst 0, 1) := by decide +kernel
theorem dX11_choose_44 : decode cX11_choose 44 = .ok (.iconst 1, 1) := by decide +kernel
theorem dX11_choose_45 : decode cX11_choose 45 = .ok (.invokestatic 70, 3) := by decide +kernel
theorem dX11_choose_48 : decode cX11_choose 48 = .ok (.ifCond .ne 20, 3) := by decide +kernel
theorem dX11_choose_51 : decode cX11_choose 51 = .ok (.iload 4, 2) := by decide +kernel
theorem dX11_choose_53 : decode cX11_choose 53 = .ok (.bipush 10, 2) := by decide +kernel
theorem dX11_choose_55 : decode cX11_choose 55 = .ok (.isub, 1) := by decide +kernel
theorem dX11_choose_56 : decode cX11_choose 56 = .ok (.iconst 0, 1) := by decide +kernel
theorem dX11_choose_57 : decode cX11_choose 57 = .ok (.iload_n 1, 1) := by decide +kernel
theorem dX11_choose_58 : decode cX11_choose 58 = .ok (.iconst 1, 1) := by decide +kernel
theorem dX11_choose_59 : decode cX11_choose 59 = .ok (.isub, 1) := by decide +kernel
theorem dX11_choose_60 : decode cX11_choose 60 = .ok (.invokestatic 70, 3) := by decide +kernel
theorem dX11_choose_63 : decode cX11_choose 63 = .ok (.ifCond .ne 5, 3) := by decide +kernel
theorem dX11_choose_66 : decode cX11_choose 66 = .ok (.iconst (-1), 1) := by decide +kernel
theorem dX11_choose_67 : decode cX11_choose 67 = .ok (.ireturn, 1) := by decide +kernel
theorem dX11_choose_68 : decode cX11_choose 68 = .ok (.iconst 0, 1) := by decide +kernel
theorem dX11_choose_69 : decode cX11_choose 69 = .ok (.istore 5, 2) := by decide +kernel
theorem dX11_choose_71 : decode cX11_choose 71 = .ok (.iload 5, 2) := by decide +kernel
theorem dX11_choose_73 : decode cX11_choose 73 = .ok (.iload_n 1, 1) := by decide +kernel
theorem dX11_choose_74 : decode cX11_choose 74 = .ok (.if_icmp .ge 20, 3) := by decide +kernel
theorem dX11_choose_77 : decode cX11_choose 77 = .ok (.aload_n 0, 1) := by decide +kernel
theorem dX11_choose_78 : decode cX11_choose 78 = .ok (.getfield 54, 3) := by decide +kernel
theorem dX11_choose_81 : decode cX11_choose 81 = .ok (.iload 5, 2) := by decide +kernel
theorem dX11_choose_83 : decode cX11_choose 83 = .ok (.iload_n 2, 1) := by decide +kernel
theorem dX11_choose_84 : decode cX11_choose 84 = .ok (.iload 5, 2) := by decide +kernel
theorem dX11_choose_86 : decode cX11_choose 86 = .ok (.iadd, 1) := by decide +kernel
theorem dX11_choose_87 : decode cX11_choose 87 = .ok (.iastore, 1) := by decide +kernel
theorem dX11_choose_88 : decode cX11_choose 88 = .ok (.iinc 5 1, 3) := by decide +kernel
theorem dX11_choose_91 : decode cX11_choose 91 = .ok (.goto (-20), 3) := by decide +kernel
theorem dX11_choose_94 : decode cX11_choose 94 = .ok (.iconst 0, 1) := by decide +kernel
theorem dX11_choose_95 : decode cX11_choose 95 = .ok (.istore 5, 2) := by decide +kernel
theorem dX11_choose_97 : decode cX11_choose 97 = .ok (.iconst (-1), 1) := by decide +kernel
theorem dX11_choose_98 : decode cX11_choose 98 = .ok (.istore 6, 2) := by decide +kernel
theorem dX11_choose_100 : decode cX11_choose 100 = .ok (.iload_n 2, 1) := by decide +kernel
theorem dX11_choose_101 : decode cX11_choose 101 = .ok (.iload_n 1, 1) := by decide +kernel
theorem dX11_choose_102 : decode cX11_choose 102 = .ok (.iadd, 1) := by decide +kernel
theorem dX11_choose_103 : decode cX11_choose 103 = .ok (.iconst 1, 1) := by decide +kernel
theorem dX11_choose_104 : decode cX11_choose 104 = .ok (.isub, 1) := by decide +kernel
theorem dX11_choose_105 : decode cX11_choose 105 = .ok (.iload_n 3, 1) := by decide +kernel
theorem dX11_choose_106 : decode cX11_choose 106 = .ok (.if_icmp .gt 7, 3) := by decide +kernel
theorem dX11_choose_109 : decode cX11_choose 109 = .ok (.iconst 1, 1) := by decide +kernel
theorem dX11_choose_110 : decode cX11_choose 110 = .ok (.goto 4, 3) := by decide +kernel
theorem dX11_choose_113 : decode cX11_choose 113 = .ok (.iconst 0, 1) := by decide +kernel
theorem dX11_choose_114 : decode cX11_choose 114 = .ok (.istore 7, 2) := by decide +kernel
theorem dX11_choose_116 : decode cX11_choose 116 = .ok (.iload 7, 2) := by decide +kernel
theorem dX11_choose_118 : decode cX11_choose 118 = .ok (.ifCond .eq 101, 3) := by decide +kernel
theorem dX11_choose_121 : decode cX11_choose 121 = .ok (.aload_n 0, 1) := by decide +kernel
theorem dX11_choose_122 : decode cX11_choose 122 = .ok (.iload_n 1, 1) := by decide +kernel
theorem dX11_choose_123 : decode cX11_choose 123 = .ok (.invokevirtual 321, 3) := by decide +kernel
theorem dX11_choose_126 : decode cX11_choose 126 = .ok (.ifCond .eq 82, 3) := by decide +kernel
theorem dX11_choose_129 : decode cX11_choose 129 = .ok (.iconst 0, 1) := by decide +kernel
theorem dX11_choose_130 : decode cX11_choose 130 = .ok (.istore 8, 2) := by decide +kernel
theorem dX11_choose_132 : decode cX11_choose 132 = .ok (.iconst 0, 1) := by decide +kernel
theorem dX11_choose_133 : decode cX11_choose 133 = .ok (.istore 9, 2) := by decide +kernel
theorem dX11_choose_135 : decode cX11_choose 135 = .ok (.iload 9, 2) := by decide +kernel
theorem dX11_choose_137 : decode cX11_choose 137 = .ok (.iload_n 1, 1) := by decide +kernel
theorem dX11_choose_138 : decode cX11_choose 138 = .ok (.if_icmp .ge 21, 3) := by decide +kernel
theorem dX11_choose_141 : decode cX11_choose 141 = .ok (.iload 8, 2) := by decide +kernel
theorem dX11_choose_143 : decode cX11_choose 143 = .ok (.aload_n 0, 1) := by decide +kernel
theorem dX11_choose_144 : decode cX11_choose 144 = .ok (.getfield 54, 3) := by decide +kernel
theorem dX11_choose_147 : decode cX11_choose 147 = .ok (.iload 9, 2) := by decide +kernel
theorem dX11_choose_149 : decode cX11_choose 149 = .ok (.iaload, 1) := by decide +kernel
theorem dX11_choose_150 : decode cX11_choose 150 = .ok (.iadd, 1) := by decide +kernel
theorem dX11_choose_151 : decode cX11_choose 151 = .ok (.istore 8, 2) := by decide +kernel
theorem dX11_choose_153 : decode cX11_choose 153 = .ok (.iinc 9 1, 3) := by decide +kernel
theorem dX11_choose_156 : decode cX11_choose 156 = .ok (.goto (-21), 3) := by decide +kernel
theorem dX11_choose_159 : decode cX11_choose 159 = .ok (.iinc 5 1, 3) := by decide +kernel
theorem dX11_choose_162 : decode cX11_choose 162 = .ok (.iload 6, 2) := by decide +kernel
theorem dX11_choose_164 : decode cX11_choose 164 = .ok (.iconst (-1), 1) := by decide +kernel
theorem dX11_choose_165 : decode cX11_choose 165 = .ok (.if_icmp .eq 10, 3) := by decide +kernel
theorem dX11_choose_168 : decode cX11_choose 168 = .ok (.iload 8, 2) := by decide +kernel
theorem dX11_choose_170 : decode cX11_choose 170 = .ok (.iload 6, 2) := by decide +kernel
theorem dX11_choose_172 : decode cX11_choose 172 = .ok (.if_icmp .ge 36, 3) := by decide +kernel
theorem dX11_choose_175 : decode cX11_choose 175 = .ok (.iload 8, 2) := by decide +kernel
theorem dX11_choose_177 : decode cX11_choose 177 = .ok (.istore 6, 2) := by decide +kernel
theorem dX11_choose_179 : decode cX11_choose 179 = .ok (.iconst 0, 1) := by decide +kernel
theorem dX11_choose_180 : decode cX11_choose 180 = .ok (.istore 9, 2) := by decide +kernel
theorem dX11_choose_182 : decode cX11_choose 182 = .ok (.iload 9, 2) := by decide +kernel
theorem dX11_choose_184 : decode cX11_choose 184 = .ok (.iload_n 1, 1) := by decide +kernel
theorem dX11_choose_185 : decode cX11_choose 185 = .ok (.if_icmp .ge 23, 3) := by decide +kernel
theorem dX11_choose_188 : decode cX11_choose 188 = .ok (.aload_n 0, 1) := by decide +kernel
theorem dX11_choose_189 : decode cX11_choose 189 = .ok (.getfield 57, 3) := by decide +kernel
theorem dX11_choose_192 : decode cX11_choose 192 = .ok (.iload 9, 2) := by decide +kernel
theorem dX11_choose_194 : decode cX11_choose 194 = .ok (.aload_n 0, 1) := by decide +kernel
theorem dX11_choose_195 : decode cX11_choose 195 = .ok (.getfield 54, 3) := by decide +kernel
theorem dX11_choose_198 : decode cX11_choose 198 = .ok (.iload 9, 2) := by decide +kernel
theorem dX11_choose_200 : decode cX11_choose 200 = .ok (.iaload, 1) := by decide +kernel
theorem dX11_choose_201 : decode cX11_choose 201 = .ok (.iastore, 1) := by decide +kernel
theorem dX11_choose_202 : decode cX11_choose 202 = .ok (.iinc 9 1, 3) := by decide +kernel
theorem dX11_choose_205 : decode cX11_choose 205 = .ok (.goto (-23), 3) := by decide +kernel
theorem dX11_choose_208 : decode cX11_choose 208 = .ok (.aload_n 0, 1) := by decide +kernel
theorem dX11_choose_209 : decode cX11_choose 209 = .ok (.iload_n 1, 1) := by decide +kernel
theorem dX11_choose_210 : decode cX11_choose 210 = .ok (.iload_n 3, 1) := by decide +kernel
theorem dX11_choose_211 : decode cX11_choose 211 = .ok (.invokevirtual 324, 3) := by decide +kernel
theorem dX11_choose_214 : decode cX11_choose 214 = .ok (.istore 7, 2) := by decide +kernel
theorem dX11_choose_216 : decode cX11_choose 216 = .ok (.goto (-100), 3) := by decide +kernel
theorem dX11_choose_219 : decode cX11_choose 219 = .ok (.iload 4, 2) := by decide +kernel
theorem dX11_choose_221 : decode cX11_choose 221 = .ok (.ifCond .ne 8, 3) := by decide +kernel
theorem dX11_choose_224 : decode cX11_choose 224 = .ok (.iload 5, 2) := by decide +kernel
theorem dX11_choose_226 : decode cX11_choose 226 = .ok (.goto 33, 3) := by decide +kernel
theorem dX11_choose_229 : decode cX11_choose 229 = .ok (.iload 5, 2) := by decide +kernel
theorem dX11_choose_231 : decode cX11_choose 231 = .ok (.ifCond .ne 7, 3) := by decide +kernel
theorem dX11_choose_234 : decode cX11_choose 234 = .ok (.iconst (-1), 1) := by decide +kernel
theorem dX11_choose_235 : decode cX11_choose 235 = .ok (.goto 24, 3) := by decide +kernel
theorem dX11_choose_238 : decode cX11_choose 238 = .ok (.iload 4, 2) := by decide +kernel
theorem dX11_choose_240 : decode cX11_choose 240 = .ok (.iconst 1, 1) := by decide +kernel
theorem dX11_choose_241 : decode cX11_choose 241 = .ok (.if_icmp .ne 8, 3) := by decide +kernel
theorem dX11_choose_244 : decode cX11_choose 244 = .ok (.iload 6, 2) := by decide +kernel
theorem dX11_choose_246 : decode cX11_choose 246 = .ok (.goto 13, 3) := by decide +kernel
theorem dX11_choose_249 : decode cX11_choose 249 = .ok (.aload_n 0, 1) := by decide +kernel
theorem dX11_choose_250 : decode cX11_choose 250 = .ok (.getfield 57, 3) := by decide +kernel
theorem dX11_choose_253 : decode cX11_choose 253 = .ok (.iload 4, 2) := by decide +kernel
theorem dX11_choose_255 : decode cX11_choose 255 = .ok (.bipush 10, 2) := by decide +kernel
theorem dX11_choose_257 : decode cX11_choose 257 = .ok (.isub, 1) := by decide +kernel
theorem dX11_choose_258 : decode cX11_choose 258 = .ok (.iaload, 1) := by decide +kernel
theorem dX11_choose_259 : decode cX11_choose 259 = .ok (.ireturn, 1) := by decide +kernel
theorem dX11_copies_0 : decode cX11_copies 0 = .ok (.iconst 0, 1) := by decide +kernel
theorem dX11_copies_1 : decode cX11_copies 1 = .ok (.istore_n 3, 1) := by decide +kernel
theorem dX11_copies_2 : decode cX11_copies 2 = .ok (.iload_n 3, 1) := by decide +kernel
theorem dX11_copies_3 : decode cX11_copies 3 = .ok (.bipush 100, 2) := by decide +kernel
theorem dX11_copies_5 : decode cX11_copies 5 = .ok (.if_icmp .ge 31, 3) := by decide +kernel
theorem dX11_copies_8 : decode cX11_copies 8 = .ok (.aload_n 0, 1) := by decide +kernel
theorem dX11_copies_9 : decode cX11_copies 9 = .ok (.getfield 7, 3) := by decide +kernel
theorem dX11_copies_12 : decode cX11_copies 12 = .ok (.bipush 100, 2) := by decide +kernel
theorem dX11_copies_14 : decode cX11_copies 14 = .ok (.iload_n 2, 1) := by decide +kernel
theorem dX11_copies_15 : decode cX11_copies 15 = .ok (.imul, 1) := by decide +kernel
theorem dX11_copies_16 : decode cX11_copies 16 = .ok (.iload_n 3, 1) := by decide +kernel
theorem dX11_copies_17 : decode cX11_copies 17 = .ok (.iadd, 1) := by decide +kernel
theorem dX11_copies_18 : decode cX11_copies 18 = .ok (.aload_n 0, 1) := by decide +kernel
theorem dX11_copies_19 : decode cX11_copies 19 = .ok (.getfield 7, 3) := by decide +kernel
theorem dX11_copies_22 : decode cX11_copies 22 = .ok (.bipush 100, 2) := by decide +kernel
theorem dX11_copies_24 : decode cX11_copies 24 = .ok (.iload_n 1, 1) := by decide +kernel
theorem dX11_copies_25 : decode cX11_copies 25 = .ok (.imul, 1) := by decide +kernel
theorem dX11_copies_26 : decode cX11_copies 26 = .ok (.iload_n 3, 1) := by decide +kernel
theorem dX11_copies_27 : decode cX11_copies 27 = .ok (.iadd, 1) := by decide +kernel
theorem dX11_copies_28 : decode cX11_copies 28 = .ok (.iaload, 1) := by decide +kernel
theorem dX11_copies_29 : decode cX11_copies 29 = .ok (.iastore, 1) := by decide +kernel
theorem dX11_copies_30 : decode cX11_copies 30 = .ok (.iinc 3 1, 3) := by decide +kernel
theorem dX11_copies_33 : decode cX11_copies 33 = .ok (.goto (-31), 3) := by decide +kernel
theorem dX11_copies_36 : decode cX11_copies 36 = .ok (.return_, 1) := by decide +kernel
set_option maxRecDepth 20000 in
theorem ggX11_more_X11_copies : GoodIn wsX11_more wsX11_copies := goodIn_r _ [7, 2, 77, 78, 79, 80, 81, 82, 83, 84, 85, 86, 87, 88, 89, 90, 91, 92, 93, 94, 95, 96, 97, 98, 99, 100, 101, 102, 103, 104, 105, 106] (by decide +kernel) (by decide +kernel)
set_option maxRecDepth 20000 in
theorem gX11_more_X11_copies : GoodIn wsX11_more (wsV RX11 327 RX11 yX11_copies wsX11_copies) := goodIn_app (goodIn_of _ (by decide +kernel)) ggX11_more_X11_copies
set_option maxRecDepth 20000 in
theorem ggX11_more_X11_hasGap : GoodIn wsX11_more wsX11_hasGap := goodIn_r _ [10] (by decide +kernel) (by decide +kernel)
set_option maxRecDepth 20000 in
theorem gX11_more_X11_hasGap : GoodIn wsX11_more (va_wsS RX11 144 yX11_hasGap wsX11_hasGap) := goodIn_app (goodIn_of _ (by decide +kernel)) ggX11_more_X11_hasGap
set_option maxRecDepth 20000 in
theorem ggX11_more_X11_putsGap : GoodIn wsX11_more wsX11_putsGap := goodIn_r _ [13] (by decide +kernel) (by decide +kernel)
set_option maxRecDepth 20000 in
theorem gX11_more_X11_putsGap : GoodIn wsX11_more (va_wsS RX11 148 yX11_putsGap wsX11_putsGap) := goodIn_app (goodIn_of _ (by decide +kernel)) ggX11_more_X11_putsGap
set_option maxRecDepth 20000 in
theorem ggX11_more_X11_laysLoud : GoodIn wsX11_more wsX11_laysLoud := goodIn_r _ [17, 18, 2, 19, 20, 21, 6, 22, 23, 24, 25, 26, 27, 28, 29, 30, 31, 32, 33, 34, 35, 36, 37, 38, 39, 40, 41, 77, 78, 79, 80, 81, 82, 83, 84, 85, 86, 87, 88, 89, 90, 91, 92, 93, 94, 95, 96, 97, 98, 99, 100, 101, 102, 103, 104, 105, 106] (by decide +kernel) (by decide +kernel)
set_option maxRecDepth 20000 in
theorem gX11_more_X11_laysLoud : GoodIn wsX11_more (wsV RX11 245 RX11 yX11_laysLoud wsX11_laysLoud) := goodIn_app (goodIn_of _ (by decide +kernel)) ggX11_more_X11_laysLoud
set_option maxRecDepth 20000 in
theorem ggX11_more_X11_foundMany : GoodIn wsX11_more wsX11_foundMany := goodIn_r _ [45, 2, 46, 47, 48, 6, 49, 50, 51, 52, 53, 27, 28, 29, 30, 54, 55, 56, 57, 18, 58, 59, 60, 61, 62, 63, 64, 19, 20, 21, 22, 23, 24, 25, 26, 77, 78, 79, 80, 81, 82, 83, 84, 85, 86, 87, 88, 89, 90, 91, 92, 93, 94, 95, 96, 97, 98, 99, 100, 101, 102, 103, 104, 105, 106] (by decide +kernel) (by decide +kernel)
set_option maxRecDepth 20000 in
theorem gX11_more_X11_foundMany : GoodIn wsX11_more (wsV RX11 260 RX11 yX11_foundMany wsX11_foundMany) := goodIn_app (goodIn_of _ (by decide +kernel)) ggX11_more_X11_foundMany
set_option maxRecDepth 20000 in
theorem ggX11_more_X11_darkMany : GoodIn wsX11_more wsX11_darkMany := goodIn_r _ [68, 2, 69, 70, 71, 6, 72, 73, 74, 75, 76, 27, 28, 29, 30, 35, 36, 37, 38, 39, 40, 41, 58, 59, 60, 77, 78, 79, 80, 81, 82, 83, 84, 85, 86, 87, 88, 89, 90, 91, 92, 93, 94, 95, 96, 97, 98, 99, 100, 101, 102, 103, 104, 105, 106] (by decide +kernel) (by decide +kernel)
set_option maxRecDepth 20000 in
theorem gX11_more_X11_darkMany : GoodIn wsX11_more (wsV RX11 254 RX11 yX11_darkMany wsX11_darkMany) := goodIn_app (goodIn_of _ (by decide +kernel)) ggX11_more_X11_darkMany
theorem dX11_more_0 : decode cX11_more 0 = .ok (.aload_n 0, 1) := by decide +kernel
theorem dX11_more_1 : decode cX11_more 1 = .ok (.iconst 0, 1) := by decide +kernel
theorem dX11_more_2 : decode cX11_more 2 = .ok (.putfield 66, 3) := by decide +kernel
theorem dX11_more_5 : decode cX11_more 5 = .ok (.aload_n 0, 1) := by decide +kernel
theorem dX11_more_6 : decode cX11_more 6 = .ok (.getfield 7, 3) := by decide +kernel
theorem dX11_more_9 : decode cX11_more 9 = .ok (.iconst 0, 1) := by decide +kernel
theorem dX11_more_10 : decode cX11_more 10 = .ok (.iaload, 1) := by decide +kernel
theorem dX11_more_11 : decode cX11_more 11 = .ok (.iconst 5, 1) := by decide +kernel
theorem dX11_more_12 : decode cX11_more 12 = .ok (.if_icmp .ne 5, 3) := by decide +kernel
theorem dX11_more_15 : decode cX11_more 15 = .ok (.iconst (-1), 1) := by decide +kernel
theorem dX11_more_16 : decode cX11_more 16 = .ok (.ireturn, 1) := by decide +kernel
theorem dX11_more_17 : decode cX11_more 17 = .ok (.aload_n 0, 1) := by decide +kernel
theorem dX11_more_18 : decode cX11_more 18 = .ok (.iconst 0, 1) := by decide +kernel
theorem dX11_more_19 : decode cX11_more 19 = .ok (.iconst 4, 1) := by decide +kernel
theorem dX11_more_20 : decode cX11_more 20 = .ok (.invokevirtual 327, 3) := by decide +kernel
theorem dX11_more_23 : decode cX11_more 23 = .ok (.iconst (-1), 1) := by decide +kernel
theorem dX11_more_24 : decode cX11_more 24 = .ok (.istore_n 2, 1) := by decide +kernel
theorem dX11_more_25 : decode cX11_more 25 = .ok (.iconst 0, 1) := by decide +kernel
theorem dX11_more_26 : decode cX11_more 26 = .ok (.istore_n 3, 1) := by decide +kernel
theorem dX11_more_27 : decode cX11_more 27 = .ok (.iconst 4, 1) := by decide +kernel
theorem dX11_more_28 : decode cX11_more 28 = .ok (.istore 4, 2) := by decide +kernel
theorem dX11_more_30 : decode cX11_more 30 = .ok (.iload 4, 2) := by decide +kernel
theorem dX11_more_32 : decode cX11_more 32 = .ok (.bipush 60, 2) := by decide +kernel
theorem dX11_more_34 : decode cX11_more 34 = .ok (.if_icmp .gt 78, 3) := by decide +kernel
theorem dX11_more_37 : decode cX11_more 37 = .ok (.aload_n 0, 1) := by decide +kernel
theorem dX11_more_38 : decode cX11_more 38 = .ok (.getfield 7, 3) := by decide +kernel
theorem dX11_more_41 : decode cX11_more 41 = .ok (.iload 4, 2) := by decide +kernel
theorem dX11_more_43 : decode cX11_more 43 = .ok (.invokestatic 144, 3) := by decide +kernel
theorem dX11_more_46 : decode cX11_more 46 = .ok (.ifCond .eq 6, 3) := by decide +kernel
theorem dX11_more_49 : decode cX11_more 49 = .ok (.goto 57, 3) := by decide +kernel
theorem dX11_more_52 : decode cX11_more 52 = .ok (.aload_n 0, 1) := by decide +kernel
theorem dX11_more_53 : decode cX11_more 53 = .ok (.getfield 7, 3) := by decide +kernel
theorem dX11_more_56 : decode cX11_more 56 = .ok (.iload 4, 2) := by decide +kernel
theorem dX11_more_58 : decode cX11_more 58 = .ok (.invokestatic 148, 3) := by decide +kernel
theorem dX11_more_61 : decode cX11_more 61 = .ok (.aload_n 0, 1) := by decide +kernel
theorem dX11_more_62 : decode cX11_more 62 = .ok (.invokevirtual 245, 3) := by decide +kernel
theorem dX11_more_65 : decode cX11_more 65 = .ok (.iload_n 1, 1) := by decide +kernel
theorem dX11_more_66 : decode cX11_more 66 = .ok (.ifCond .eq 11, 3) := by decide +kernel
theorem dX11_more_69 : decode cX11_more 69 = .ok (.aload_n 0, 1) := by decide +kernel
theorem dX11_more_70 : decode cX11_more 70 = .ok (.iconst 1, 1) := by decide +kernel
theorem dX11_more_71 : decode cX11_more 71 = .ok (.invokevirtual 260, 3) := by decide +kernel
theorem dX11_more_74 : decode cX11_more 74 = .ok (.goto 7, 3) := by decide +kernel
theorem dX11_more_77 : decode cX11_more 77 = .ok (.aload_n 0, 1) := by decide +kernel
theorem dX11_more_78 : decode cX11_more 78 = .ok (.invokevirtual 254, 3) := by decide +kernel
theorem dX11_more_81 : decode cX11_more 81 = .ok (.istore 5, 2) := by decide +kernel
theorem dX11_more_83 : decode cX11_more 83 = .ok (.iload_n 2, 1) := by decide +kernel
theorem dX11_more_84 : decode cX11_more 84 = .ok (.iconst (-1), 1) := by decide +kernel
theorem dX11_more_85 : decode cX11_more 85 = .ok (.if_icmp .eq 9, 3) := by decide +kernel
theorem dX11_more_88 : decode cX11_more 88 = .ok (.iload 5, 2) := by decide +kernel
theorem dX11_more_90 : decode cX11_more 90 = .ok (.iload_n 3, 1) := by decide +kernel
theorem dX11_more_91 : decode cX11_more 91 = .ok (.if_icmp .ge 9, 3) := by decide +kernel
theorem dX11_more_94 : decode cX11_more 94 = .ok (.iload 4, 2) := by decide +kernel
theorem dX11_more_96 : decode cX11_more 96 = .ok (.istore_n 2, 1) := by decide +kernel
theorem dX11_more_97 : decode cX11_more 97 = .ok (.iload 5, 2) := by decide +kernel
theorem dX11_more_99 : decode cX11_more 99 = .ok (.istore_n 3, 1) := by decide +kernel
theorem dX11_more_100 : decode cX11_more 100 = .ok (.aload_n 0, 1) := by decide +kernel
theorem dX11_more_101 : decode cX11_more 101 = .ok (.iconst 4, 1) := by decide +kernel
theorem dX11_more_102 : decode cX11_more 102 = .ok (.iconst 0, 1) := by decide +kernel
theorem dX11_more_103 : decode cX11_more 103 = .ok (.invokevirtual 327, 3) := by decide +kernel
theorem dX11_more_106 : decode cX11_more 106 = .ok (.iinc 4 1, 3) := by decide +kernel
theorem dX11_more_109 : decode cX11_more 109 = .ok (.goto (-79), 3) := by decide +kernel
theorem dX11_more_112 : decode cX11_more 112 = .ok (.iload_n 2, 1) := by decide +kernel
theorem dX11_more_113 : decode cX11_more 113 = .ok (.ireturn, 1) := by decide +kernel
set_option maxRecDepth 20000 in
theorem ggX11_shaken_X11_in : GoodIn wsX11_shaken wsX11_in := goodIn_r _ [6] (by decide +kernel) (by decide +kernel)
set_option maxRecDepth 20000 in
theorem gX11_shaken_X11_in : GoodIn wsX11_shaken (va_wsS RX11 70 yX11_in wsX11_in) := goodIn_app (goodIn_of _ (by decide +kernel)) ggX11_shaken_X11_in
set_option maxRecDepth 20000 in
theorem ggX11_shaken_X11_gapAt : GoodIn wsX11_shaken wsX11_gapAt := goodIn_r _ [10, 2, 18, 19, 20, 21, 22, 23, 24, 25, 26, 27, 28, 29, 30, 31, 32, 33, 34, 35, 36, 37, 38, 39, 40, 41, 42, 43, 44, 45, 46, 47] (by decide +kernel) (by decide +kernel)
set_option maxRecDepth 20000 in
theorem gX11_shaken_X11_gapAt : GoodIn wsX11_shaken (wsV RX11 185 RX11 yX11_gapAt wsX11_gapAt) := goodIn_app (goodIn_of _ (by decide +kernel)) ggX11_shaken_X11_gapAt
set_option maxRecDepth 20000 in
theorem ggX11_shaken_X11_isBlind : GoodIn wsX11_shaken wsX11_isBlind := goodIn_r _ [14, 2, 15, 16, 5, 17, 18, 19, 20, 21, 22, 23, 24, 25, 26, 27, 28, 29, 30, 31, 32, 33, 34, 35, 36, 37, 38, 39, 40, 41, 42, 43, 44, 45, 46, 47] (by decide +kernel) (by decide +kernel)
set_option maxRecDepth 20000 in
theorem gX11_shaken_X11_isBlind : GoodIn wsX11_shaken (wsV RX11 215 RX11 yX11_isBlind wsX11_isBlind) := goodIn_app (goodIn_of _ (by decide +kernel)) ggX11_shaken_X11_isBlind
theorem dX11_shaken_0 : decode cX11_shaken 0 = .ok (.aload_n 0, 1) := by decide +kernel
theorem dX11_shaken_1 : decode cX11_shaken 1 = .ok (.iconst 0, 1) := by decide +kernel
theorem dX11_shaken_2 : decode cX11_shaken 2 = .ok (.putfield 66, 3) := by decide +kernel
theorem dX11_shaken_5 : decode cX11_shaken 5 = .ok (.iload_n 1, 1) := by decide +kernel
theorem dX11_shaken_6 : decode cX11_shaken 6 = .ok (.iconst 0, 1) := by decide +kernel
theorem dX11_shaken_7 : decode cX11_shaken 7 = .ok (.iconst 3, 1) := by decide +kernel
theorem dX11_shaken_8 : decode cX11_shaken 8 = .ok (.invokestatic 70, 3) := by decide +kernel
theorem dX11_shaken_11 : decode cX11_shaken 11 = .ok (.ifCond .ne 5, 3) := by decide +kernel
theorem dX11_shaken_14 : decode cX11_shaken 14 = .ok (.iconst (-1), 1) := by decide +kernel
theorem dX11_shaken_15 : decode cX11_shaken 15 = .ok (.ireturn, 1) := by decide +kernel
theorem dX11_shaken_16 : decode cX11_shaken 16 = .ok (.iconst 0, 1) := by decide +kernel
theorem dX11_shaken_17 : decode cX11_shaken 17 = .ok (.istore_n 3, 1) := by decide +kernel
theorem dX11_shaken_18 : decode cX11_shaken 18 = .ok (.iconst 1, 1) := by decide +kernel
theorem dX11_shaken_19 : decode cX11_shaken 19 = .ok (.istore 4, 2) := by decide +kernel
theorem dX11_shaken_21 : decode cX11_shaken 21 = .ok (.iload 4, 2) := by decide +kernel
theorem dX11_shaken_23 : decode cX11_shaken 23 = .ok (.aload_n 0, 1) := by decide +kernel
theorem dX11_shaken_24 : decode cX11_shaken 24 = .ok (.getfield 7, 3) := by decide +kernel
theorem dX11_shaken_27 : decode cX11_shaken 27 = .ok (.bipush 11, 2) := by decide +kernel
theorem dX11_shaken_29 : decode cX11_shaken 29 = .ok (.iaload, 1) := by decide +kernel
theorem dX11_shaken_30 : decode cX11_shaken 30 = .ok (.if_icmp .gt 131, 3) := by decide +kernel
theorem dX11_shaken_33 : decode cX11_shaken 33 = .ok (.iconst 0, 1) := by decide +kernel
theorem dX11_shaken_34 : decode cX11_shaken 34 = .ok (.istore 5, 2) := by decide +kernel
theorem dX11_shaken_36 : decode cX11_shaken 36 = .ok (.iconst 0, 1) := by decide +kernel
theorem dX11_shaken_37 : decode cX11_shaken 37 = .ok (.istore 6, 2) := by decide +kernel
theorem dX11_shaken_39 : decode cX11_shaken 39 = .ok (.iload 6, 2) := by decide +kernel
theorem dX11_shaken_41 : decode cX11_shaken 41 = .ok (.aload_n 0, 1) := by decide +kernel
theorem dX11_shaken_42 : decode cX11_shaken 42 = .ok (.getfield 7, 3) := by decide +kernel
theorem dX11_shaken_45 : decode cX11_shaken 45 = .ok (.iconst 0, 1) := by decide +kernel
theorem dX11_shaken_46 : decode cX11_shaken 46 = .ok (.iaload, 1) := by decide +kernel
theorem dX11_shaken_47 : decode cX11_shaken 47 = .ok (.if_icmp .ge 88, 3) := by decide +kernel
theorem dX11_shaken_50 : decode cX11_shaken 50 = .ok (.iconst 0, 1) := by decide +kernel
theorem dX11_shaken_51 : decode cX11_shaken 51 = .ok (.istore 7, 2) := by decide +kernel
theorem dX11_shaken_53 : decode cX11_shaken 53 = .ok (.iload_n 1, 1) := by decide +kernel
theorem dX11_shaken_54 : decode cX11_shaken 54 = .ok (.ineg, 1) := by decide +kernel
theorem dX11_shaken_55 : decode cX11_shaken 55 = .ok (.istore 8, 2) := by decide +kernel
theorem dX11_shaken_57 : decode cX11_shaken 57 = .ok (.iload 8, 2) := by decide +kernel
theorem dX11_shaken_59 : decode cX11_shaken 59 = .ok (.iload_n 1, 1) := by decide +kernel
theorem dX11_shaken_60 : decode cX11_shaken 60 = .ok (.if_icmp .gt 37, 3) := by decide +kernel
theorem dX11_shaken_63 : decode cX11_shaken 63 = .ok (.iload 7, 2) := by decide +kernel
theorem dX11_shaken_65 : decode cX11_shaken 65 = .ok (.aload_n 0, 1) := by decide +kernel
theorem dX11_shaken_66 : decode cX11_shaken 66 = .ok (.iload 4, 2) := by decide +kernel
theorem dX11_shaken_68 : decode cX11_shaken 68 = .ok (.aload_n 0, 1) := by decide +kernel
theorem dX11_shaken_69 : decode cX11_shaken 69 = .ok (.iload 6, 2) := by decide +kernel
theorem dX11_shaken_71 : decode cX11_shaken 71 = .ok (.invokevirtual 185, 3) := by decide +kernel
theorem dX11_shaken_74 : decode cX11_shaken 74 = .ok (.iload 8, 2) := by decide +kernel
theorem dX11_shaken_76 : decode cX11_shaken 76 = .ok (.iadd, 1) := by decide +kernel
theorem dX11_shaken_77 : decode cX11_shaken 77 = .ok (.invokevirtual 215, 3) := by decide +kernel
theorem dX11_shaken_80 : decode cX11_shaken 80 = .ok (.ifCond .eq 7, 3) := by decide +kernel
theorem dX11_shaken_83 : decode cX11_shaken 83 = .ok (.iconst 0, 1) := by decide +kernel
theorem dX11_shaken_84 : decode cX11_shaken 84 = .ok (.goto 4, 3) := by decide +kernel
theorem dX11_shaken_87 : decode cX11_shaken 87 = .ok (.iconst 1, 1) := by decide +kernel
theorem dX11_shaken_88 : decode cX11_shaken 88 = .ok (.iadd, 1) := by decide +kernel
theorem dX11_shaken_89 : decode cX11_shaken 89 = .ok (.istore 7, 2) := by decide +kernel
theorem dX11_shaken_91 : decode cX11_shaken 91 = .ok (.iinc 8 1, 3) := by decide +kernel
theorem dX11_shaken_94 : decode cX11_shaken 94 = .ok (.goto (-37), 3) := by decide +kernel
theorem dX11_shaken_97 : decode cX11_shaken 97 = .ok (.iload 5, 2) := by decide +kernel
theorem dX11_shaken_99 : decode cX11_shaken 99 = .ok (.iload_n 2, 1) := by decide +kernel
theorem dX11_shaken_100 : decode cX11_shaken 100 = .ok (.ifCond .eq 11, 3) := by decide +kernel
theorem dX11_shaken_103 : decode cX11_shaken 103 = .ok (.iload 7, 2) := by decide +kernel
theorem dX11_shaken_105 : decode cX11_shaken 105 = .ok (.ifCond .le 20, 3) := by decide +kernel
theorem dX11_shaken_108 : decode cX11_shaken 108 = .ok (.goto 13, 3) := by decide +kernel
theorem dX11_shaken_111 : decode cX11_shaken 111 = .ok (.iload 7, 2) := by decide +kernel
theorem dX11_shaken_113 : decode cX11_shaken 113 = .ok (.iconst 2, 1) := by decide +kernel
theorem dX11_shaken_114 : decode cX11_shaken 114 = .ok (.iload_n 1, 1) := by decide +kernel
theorem dX11_shaken_115 : decode cX11_shaken 115 = .ok (.imul, 1) := by decide +kernel
theorem dX11_shaken_116 : decode cX11_shaken 116 = .ok (.iconst 1, 1) := by decide +kernel
theorem dX11_shaken_117 : decode cX11_shaken 117 = .ok (.iadd, 1) := by decide +kernel
theorem dX11_shaken_118 : decode cX11_shaken 118 = .ok (.if_icmp .ne 7, 3) := by decide +kernel
theorem dX11_shaken_121 : decode cX11_shaken 121 = .ok (.iconst 1, 1) := by decide +kernel
theorem dX11_shaken_122 : decode cX11_shaken 122 = .ok (.goto 4, 3) := by decide +kernel
theorem dX11_shaken_125 : decode cX11_shaken 125 = .ok (.iconst 0, 1) := by decide +kernel
theorem dX11_shaken_126 : decode cX11_shaken 126 = .ok (.iadd, 1) := by decide +kernel
theorem dX11_shaken_127 : decode cX11_shaken 127 = .ok (.istore 5, 2) := by decide +kernel
theorem dX11_shaken_129 : decode cX11_shaken 129 = .ok (.iinc 6 1, 3) := by decide +kernel
theorem dX11_shaken_132 : decode cX11_shaken 132 = .ok (.goto (-93), 3) := by decide +kernel
theorem dX11_shaken_135 : decode cX11_shaken 135 = .ok (.iload_n 3, 1) := by decide +kernel
theorem dX11_shaken_136 : decode cX11_shaken 136 = .ok (.iload 5, 2) := by decide +kernel
theorem dX11_shaken_138 : decode cX11_shaken 138 = .ok (.aload_n 0, 1) := by decide +kernel
theorem dX11_shaken_139 : decode cX11_shaken 139 = .ok (.getfield 7, 3) := by decide +kernel
theorem dX11_shaken_142 : decode cX11_shaken 142 = .ok (.bipush 10, 2) := by decide +kernel
theorem dX11_shaken_144 : decode cX11_shaken 144 = .ok (.iaload, 1) := by decide +kernel
theorem dX11_shaken_145 : decode cX11_shaken 145 = .ok (.if_icmp .lt 7, 3) := by decide +kernel
theorem dX11_shaken_148 : decode cX11_shaken 148 = .ok (.iconst 1, 1) := by decide +kernel
theorem dX11_shaken_149 : decode cX11_shaken 149 = .ok (.goto 4, 3) := by decide +kernel
theorem dX11_shaken_152 : decode cX11_shaken 152 = .ok (.iconst 0, 1) := by decide +kernel
theorem dX11_shaken_153 : decode cX11_shaken 153 = .ok (.iadd, 1) := by decide +kernel
theorem dX11_shaken_154 : decode cX11_shaken 154 = .ok (.istore_n 3, 1) := by decide +kernel
theorem dX11_shaken_155 : decode cX11_shaken 155 = .ok (.iinc 4 1, 3) := by decide +kernel
theorem dX11_shaken_158 : decode cX11_shaken 158 = .ok (.goto (-137), 3) := by decide +kernel
theorem dX11_shaken_161 : decode cX11_shaken 161 = .ok (.iload_n 3, 1) := by decide +kernel
theorem dX11_shaken_162 : decode cX11_shaken 162 = .ok (.ireturn, 1) := by decide +kernel
set_option maxRecDepth 20000 in
theorem ggX11_goesOnBy_X11_of : GoodIn wsX11_goesOnBy wsX11_of := goodIn_r _ [6, 7, 19, 20, 21, 22, 23, 24, 25, 26, 27, 28, 29, 30, 31, 32, 33, 34, 35, 36, 37, 38, 39, 40, 41, 42, 43, 44, 45, 46, 47, 48] (by decide +kernel) (by decide +kernel)
set_option maxRecDepth 20000 in
theorem gX11_goesOnBy_X11_of : GoodIn wsX11_goesOnBy (wsV RX11 74 RX11 yX11_of wsX11_of) := goodIn_app (goodIn_of _ (by decide +kernel)) ggX11_goesOnBy_X11_of
set_option maxRecDepth 20000 in
theorem ggX11_goesOnBy_X11_in : GoodIn wsX11_goesOnBy wsX11_in := goodIn_r _ [10] (by decide +kernel) (by decide +kernel)
set_option maxRecDepth 20000 in
theorem gX11_goesOnBy_X11_in : GoodIn wsX11_goesOnBy (va_wsS RX11 70 yX11_in wsX11_in) := goodIn_app (goodIn_of _ (by decide +kernel)) ggX11_goesOnBy_X11_in
set_option maxRecDepth 20000 in
theorem ggX11_goesOnBy_X11_moves : GoodIn wsX11_goesOnBy wsX11_moves := goodIn_r _ [14, 7, 1, 2, 3, 4, 5, 6, 8, 9, 10, 15, 16, 17, 18, 19, 20, 21, 22, 23, 24, 25, 26, 27, 28, 29, 30, 31, 32, 33, 34, 35, 36, 37, 38, 39, 40, 41, 42, 43, 44, 45, 46, 47, 48] (by decide +kernel) (by decide +kernel)
set_option maxRecDepth 20000 in
theorem gX11_goesOnBy_X11_moves : GoodIn wsX11_goesOnBy (wsV RX11 197 RX11 yX11_moves wsX11_moves) := goodIn_app (goodIn_of _ (by decide +kernel)) ggX11_goesOnBy_X11_moves
theorem dX11_goesOnBy_0 : decode cX11_goesOnBy 0 = .ok (.iload_n 1, 1) := by decide +kernel
theorem dX11_goesOnBy_1 : decode cX11_goesOnBy 1 = .ok (.istore_n 3, 1) := by decide +kernel
theorem dX11_goesOnBy_2 : decode cX11_goesOnBy 2 = .ok (.iconst 0, 1) := by decide +kernel
theorem dX11_goesOnBy_3 : decode cX11_goesOnBy 3 = .ok (.istore 4, 2) := by decide +kernel
theorem dX11_goesOnBy_5 : decode cX11_goesOnBy 5 = .ok (.iload 4, 2) := by decide +kernel
theorem dX11_goesOnBy_7 : decode cX11_goesOnBy 7 = .ok (.iload_n 1, 1) := by decide +kernel
theorem dX11_goesOnBy_8 : decode cX11_goesOnBy 8 = .ok (.if_icmp .ge 43, 3) := by decide +kernel
theorem dX11_goesOnBy_11 : decode cX11_goesOnBy 11 = .ok (.iload_n 3, 1) := by decide +kernel
theorem dX11_goesOnBy_12 : decode cX11_goesOnBy 12 = .ok (.aload_n 0, 1) := by decide +kernel
theorem dX11_goesOnBy_13 : decode cX11_goesOnBy 13 = .ok (.iload 4, 2) := by decide +kernel
theorem dX11_goesOnBy_15 : decode cX11_goesOnBy 15 = .ok (.iconst 0, 1) := by decide +kernel
theorem dX11_goesOnBy_16 : decode cX11_goesOnBy 16 = .ok (.invokevirtual 74, 3) := by decide +kernel
theorem dX11_goesOnBy_19 : decode cX11_goesOnBy 19 = .ok (.iload_n 2, 1) := by decide +kernel
theorem dX11_goesOnBy_20 : decode cX11_goesOnBy 20 = .ok (.aload_n 0, 1) := by decide +kernel
theorem dX11_goesOnBy_21 : decode cX11_goesOnBy 21 = .ok (.iload 4, 2) := by decide +kernel
theorem dX11_goesOnBy_23 : decode cX11_goesOnBy 23 = .ok (.iconst 1, 1) := by decide +kernel
theorem dX11_goesOnBy_24 : decode cX11_goesOnBy 24 = .ok (.invokevirtual 74, 3) := by decide +kernel
theorem dX11_goesOnBy_27 : decode cX11_goesOnBy 27 = .ok (.imul, 1) := by decide +kernel
theorem dX11_goesOnBy_28 : decode cX11_goesOnBy 28 = .ok (.iadd, 1) := by decide +kernel
theorem dX11_goesOnBy_29 : decode cX11_goesOnBy 29 = .ok (.iconst 0, 1) := by decide +kernel
theorem dX11_goesOnBy_30 : decode cX11_goesOnBy 30 = .ok (.ldc 195, 2) := by decide +kernel
theorem dX11_goesOnBy_32 : decode cX11_goesOnBy 32 = .ok (.invokestatic 70, 3) := by decide +kernel
theorem dX11_goesOnBy_35 : decode cX11_goesOnBy 35 = .ok (.ifCond .eq 7, 3) := by decide +kernel
theorem dX11_goesOnBy_38 : decode cX11_goesOnBy 38 = .ok (.iconst 0, 1) := by decide +kernel
theorem dX11_goesOnBy_39 : decode cX11_goesOnBy 39 = .ok (.goto 4, 3) := by decide +kernel
theorem dX11_goesOnBy_42 : decode cX11_goesOnBy 42 = .ok (.iconst 1, 1) := by decide +kernel
theorem dX11_goesOnBy_43 : decode cX11_goesOnBy 43 = .ok (.isub, 1) := by decide +kernel
theorem dX11_goesOnBy_44 : decode cX11_goesOnBy 44 = .ok (.istore_n 3, 1) := by decide +kernel
theorem dX11_goesOnBy_45 : decode cX11_goesOnBy 45 = .ok (.iinc 4 1, 3) := by decide +kernel
theorem dX11_goesOnBy_48 : decode cX11_goesOnBy 48 = .ok (.goto (-43), 3) := by decide +kernel
theorem dX11_goesOnBy_51 : decode cX11_goesOnBy 51 = .ok (.aload_n 0, 1) := by decide +kernel
theorem dX11_goesOnBy_52 : decode cX11_goesOnBy 52 = .ok (.iload_n 1, 1) := by decide +kernel
theorem dX11_goesOnBy_53 : decode cX11_goesOnBy 53 = .ok (.iconst 0, 1) := by decide +kernel
theorem dX11_goesOnBy_54 : decode cX11_goesOnBy 54 = .ok (.invokevirtual 74, 3) := by decide +kernel
theorem dX11_goesOnBy_57 : decode cX11_goesOnBy 57 = .ok (.iload_n 2, 1) := by decide +kernel
theorem dX11_goesOnBy_58 : decode cX11_goesOnBy 58 = .ok (.aload_n 0, 1) := by decide +kernel
theorem dX11_goesOnBy_59 : decode cX11_goesOnBy 59 = .ok (.iload_n 1, 1) := by decide +kernel
theorem dX11_goesOnBy_60 : decode cX11_goesOnBy 60 = .ok (.iconst 1, 1) := by decide +kernel
theorem dX11_goesOnBy_61 : decode cX11_goesOnBy 61 = .ok (.invokevirtual 74, 3) := by decide +kernel
theorem dX11_goesOnBy_64 : decode cX11_goesOnBy 64 = .ok (.imul, 1) := by decide +kernel
theorem dX11_goesOnBy_65 : decode cX11_goesOnBy 65 = .ok (.iadd, 1) := by decide +kernel
theorem dX11_goesOnBy_66 : decode cX11_goesOnBy 66 = .ok (.iconst 0, 1) := by decide +kernel
theorem dX11_goesOnBy_67 : decode cX11_goesOnBy 67 = .ok (.ldc 195, 2) := by decide +kernel
theorem dX11_goesOnBy_69 : decode cX11_goesOnBy 69 = .ok (.invokestatic 70, 3) := by decide +kernel
theorem dX11_goesOnBy_72 : decode cX11_goesOnBy 72 = .ok (.istore 4, 2) := by decide +kernel
theorem dX11_goesOnBy_74 : decode cX11_goesOnBy 74 = .ok (.aload_n 0, 1) := by decide +kernel
theorem dX11_goesOnBy_75 : decode cX11_goesOnBy 75 = .ok (.iload_n 2, 1) := by decide +kernel
theorem dX11_goesOnBy_76 : decode cX11_goesOnBy 76 = .ok (.invokevirtual 197, 3) := by decide +kernel
theorem dX11_goesOnBy_79 : decode cX11_goesOnBy 79 = .ok (.istore 5, 2) := by decide +kernel
theorem dX11_goesOnBy_81 : decode cX11_goesOnBy 81 = .ok (.iload 4, 2) := by decide +kernel
theorem dX11_goesOnBy_83 : decode cX11_goesOnBy 83 = .ok (.ifCond .eq 7, 3) := by decide +kernel
theorem dX11_goesOnBy_86 : decode cX11_goesOnBy 86 = .ok (.iload_n 3, 1) := by decide +kernel
theorem dX11_goesOnBy_87 : decode cX11_goesOnBy 87 = .ok (.goto 4, 3) := by decide +kernel
theorem dX11_goesOnBy_90 : decode cX11_goesOnBy 90 = .ok (.iconst (-1), 1) := by decide +kernel
theorem dX11_goesOnBy_91 : decode cX11_goesOnBy 91 = .ok (.ireturn, 1) := by decide +kernel
set_option maxRecDepth 20000 in
theorem ggX11_until_X11_isTarget : GoodIn wsX11_until wsX11_isTarget := goodIn_r _ [6, 7, 8, 9, 5, 10, 71, 72, 73, 74, 75, 76, 77, 78, 79, 80, 81, 82, 83, 84, 85, 86, 87, 88, 89, 90, 91, 92, 93, 94, 95, 96, 97, 98, 99, 100] (by decide +kernel) (by decide +kernel)
set_option maxRecDepth 20000 in
theorem gX11_until_X11_isTarget : GoodIn wsX11_until (wsV RX11 188 RX11 yX11_isTarget wsX11_isTarget) := goodIn_app (goodIn_of _ (by decide +kernel)) ggX11_until_X11_isTarget
set_option maxRecDepth 20000 in
theorem ggX11_until_X11_in : GoodIn wsX11_until wsX11_in := goodIn_r _ [10] (by decide +kernel) (by decide +kernel)
set_option maxRecDepth 20000 in
theorem gX11_until_X11_in : GoodIn wsX11_until (va_wsS RX11 70 yX11_in wsX11_in) := goodIn_app (goodIn_of _ (by decide +kernel)) ggX11_until_X11_in
set_option maxRecDepth 20000 in
theorem ggX11_until_X11_copies : GoodIn wsX11_until wsX11_copies := goodIn_r _ [14, 7, 71, 72, 73, 74, 75, 76, 77, 78, 79, 80, 81, 82, 83, 84, 85, 86, 87, 88, 89, 90, 91, 92, 93, 94, 95, 96, 97, 98, 99, 100] (by decide +kernel) (by decide +kernel)
set_option maxRecDepth 20000 in
theorem gX11_until_X11_copies : GoodIn wsX11_until (wsV RX11 327 RX11 yX11_copies wsX11_copies) := goodIn_app (goodIn_of _ (by decide +kernel)) ggX11_until_X11_copies
set_option maxRecDepth 20000 in
theorem ggX11_until_X11_goesOnBy : GoodIn wsX11_until wsX11_goesOnBy := goodIn_r _ [18, 19, 20, 21, 22, 5, 23, 7, 8, 9, 10, 24, 25, 26, 27, 28, 29, 30, 31, 71, 72, 73, 74, 75, 76, 77, 78, 79, 80, 81, 82, 83, 84, 85, 86, 87, 88, 89, 90, 91, 92, 93, 94, 95, 96, 97, 98, 99, 100] (by decide +kernel) (by decide +kernel)
set_option maxRecDepth 20000 in
theorem gX11_until_X11_goesOnBy : GoodIn wsX11_until (wsV RX11 330 RX11 yX11_goesOnBy wsX11_goesOnBy) := goodIn_app (goodIn_of _ (by decide +kernel)) ggX11_until_X11_goesOnBy
set_option maxRecDepth 20000 in
theorem ggX11_until_X11_laysLoud : GoodIn wsX11_until wsX11_laysLoud := goodIn_r _ [35, 36, 7, 37, 38, 39, 5, 40, 20, 21, 22, 23, 41, 42, 43, 44, 45, 46, 47, 48, 49, 50, 51, 52, 53, 54, 55, 71, 72, 73, 74, 75, 76, 77, 78, 79, 80, 81, 82, 83, 84, 85, 86, 87, 88, 89, 90, 91, 92, 93, 94, 95, 96, 97, 98, 99, 100] (by decide +kernel) (by decide +kernel)
set_option maxRecDepth 20000 in
theorem gX11_until_X11_laysLoud : GoodIn wsX11_until (wsV RX11 245 RX11 yX11_laysLoud wsX11_laysLoud) := goodIn_app (goodIn_of _ (by decide +kernel)) ggX11_until_X11_laysLoud
set_option maxRecDepth 20000 in
theorem ggX11_until_X11_rangeOf : GoodIn wsX11_until wsX11_rangeOf := goodIn_r _ [40, 20, 21, 22, 5, 23, 7, 71, 72, 73, 74, 75, 76, 77, 78, 79, 80, 81, 82, 83, 84, 85, 86, 87, 88, 89, 90, 91, 92, 93, 94, 95, 96, 97, 98, 99, 100] (by decide +kernel) (by decide +kernel)
set_option maxRecDepth 20000 in
theorem gX11_until_X11_rangeOf : GoodIn wsX11_until (wsV RX11 227 RX11 yX11_rangeOf wsX11_rangeOf) := goodIn_app (goodIn_of _ (by decide +kernel)) ggX11_until_X11_rangeOf
set_option maxRecDepth 20000 in
theorem ggX11_until_X11_isFound : GoodIn wsX11_until wsX11_isFound := goodIn_r _ [59, 7, 60, 61, 62, 5, 63, 41, 42, 43, 44, 64, 65, 66, 67, 36, 68, 69, 70, 71, 72, 73, 74, 75, 76, 77, 78, 79, 80, 81, 82, 83, 84, 85, 86, 87, 88, 89, 90, 91, 92, 93, 94, 95, 96, 97, 98, 99, 100] (by decide +kernel) (by decide +kernel)
set_option maxRecDepth 20000 in
theorem gX11_until_X11_isFound : GoodIn wsX11_until (wsV RX11 239 RX11 yX11_isFound wsX11_isFound) := goodIn_app (goodIn_of _ (by decide +kernel)) ggX11_until_X11_isFound
theorem dX11_until_0 : decode cX11_until 0 = .ok (.aload_n 0, 1) := by decide +kernel
theorem dX11_until_1 : decode cX11_until 1 = .ok (.iconst 0, 1) := by decide +kernel
theorem dX11_until_2 : decode cX11_until 2 = .ok (.putfield 66, 3) := by decide +kernel
theorem dX11_until_5 : decode cX11_until 5 = .ok (.aload_n 0, 1) := by decide +kernel
theorem dX11_until_6 : decode cX11_until 6 = .ok (.iload_n 1, 1) := by decide +kernel
theorem dX11_until_7 : decode cX11_until 7 = .ok (.invokevirtual 188, 3) := by decide +kernel
theorem dX11_until_10 : decode cX11_until 10 = .ok (.ifCond .eq 14, 3) := by decide +kernel
theorem dX11_until_13 : decode cX11_until 13 = .ok (.iload_n 2, 1) := by decide +kernel
theorem dX11_until_14 : decode cX11_until 14 = .ok (.iconst 0, 1) := by decide +kernel
theorem dX11_until_15 : decode cX11_until 15 = .ok (.sipush 200, 3) := by decide +kernel
theorem dX11_until_18 : decode cX11_until 18 = .ok (.invokestatic 70, 3) := by decide +kernel
theorem dX11_until_21 : decode cX11_until 21 = .ok (.ifCond .ne 5, 3) := by decide +kernel
theorem dX11_until_24 : decode cX11_until 24 = .ok (.iconst (-1), 1) := by decide +kernel
theorem dX11_until_25 : decode cX11_until 25 = .ok (.ireturn, 1) := by decide +kernel
theorem dX11_until_26 : decode cX11_until 26 = .ok (.aload_n 0, 1) := by decide +kernel
theorem dX11_until_27 : decode cX11_until 27 = .ok (.iconst 0, 1) := by decide +kernel
theorem dX11_until_28 : decode cX11_until 28 = .ok (.iconst 4, 1) := by decide +kernel
theorem dX11_until_29 : decode cX11_until 29 = .ok (.invokevirtual 327, 3) := by decide +kernel
theorem dX11_until_32 : decode cX11_until 32 = .ok (.iconst (-1), 1) := by decide +kernel
theorem dX11_until_33 : decode cX11_until 33 = .ok (.istore_n 3, 1) := by decide +kernel
theorem dX11_until_34 : decode cX11_until 34 = .ok (.iconst 0, 1) := by decide +kernel
theorem dX11_until_35 : decode cX11_until 35 = .ok (.istore 4, 2) := by decide +kernel
theorem dX11_until_37 : decode cX11_until 37 = .ok (.iload 4, 2) := by decide +kernel
theorem dX11_until_39 : decode cX11_until 39 = .ok (.iload_n 2, 1) := by decide +kernel
theorem dX11_until_40 : decode cX11_until 40 = .ok (.if_icmp .gt 59, 3) := by decide +kernel
theorem dX11_until_43 : decode cX11_until 43 = .ok (.iload_n 3, 1) := by decide +kernel
theorem dX11_until_44 : decode cX11_until 44 = .ok (.iconst (-1), 1) := by decide +kernel
theorem dX11_until_45 : decode cX11_until 45 = .ok (.if_icmp .ne 54, 3) := by decide +kernel
theorem dX11_until_48 : decode cX11_until 48 = .ok (.aload_n 0, 1) := by decide +kernel
theorem dX11_until_49 : decode cX11_until 49 = .ok (.iload_n 1, 1) := by decide +kernel
theorem dX11_until_50 : decode cX11_until 50 = .ok (.iload 4, 2) := by decide +kernel
theorem dX11_until_52 : decode cX11_until 52 = .ok (.invokevirtual 330, 3) := by decide +kernel
theorem dX11_until_55 : decode cX11_until 55 = .ok (.istore 5, 2) := by decide +kernel
theorem dX11_until_57 : decode cX11_until 57 = .ok (.aload_n 0, 1) := by decide +kernel
theorem dX11_until_58 : decode cX11_until 58 = .ok (.invokevirtual 245, 3) := by decide +kernel
theorem dX11_until_61 : decode cX11_until 61 = .ok (.iload 5, 2) := by decide +kernel
theorem dX11_until_63 : decode cX11_until 63 = .ok (.iconst (-1), 1) := by decide +kernel
theorem dX11_until_64 : decode cX11_until 64 = .ok (.if_icmp .eq 21, 3) := by decide +kernel
theorem dX11_until_67 : decode cX11_until 67 = .ok (.aload_n 0, 1) := by decide +kernel
theorem dX11_until_68 : decode cX11_until 68 = .ok (.aload_n 0, 1) := by decide +kernel
theorem dX11_until_69 : decode cX11_until 69 = .ok (.iload 5, 2) := by decide +kernel
theorem dX11_until_71 : decode cX11_until 71 = .ok (.invokevirtual 227, 3) := by decide +kernel
theorem dX11_until_74 : decode cX11_until 74 = .ok (.invokevirtual 239, 3) := by decide +kernel
theorem dX11_until_77 : decode cX11_until 77 = .ok (.ifCond .eq 8, 3) := by decide +kernel
theorem dX11_until_80 : decode cX11_until 80 = .ok (.iload 4, 2) := by decide +kernel
theorem dX11_until_82 : decode cX11_until 82 = .ok (.goto 4, 3) := by decide +kernel
theorem dX11_until_85 : decode cX11_until 85 = .ok (.iconst (-1), 1) := by decide +kernel
theorem dX11_until_86 : decode cX11_until 86 = .ok (.istore_n 3, 1) := by decide +kernel
theorem dX11_until_87 : decode cX11_until 87 = .ok (.aload_n 0, 1) := by decide +kernel
theorem dX11_until_88 : decode cX11_until 88 = .ok (.iconst 4, 1) := by decide +kernel
theorem dX11_until_89 : decode cX11_until 89 = .ok (.iconst 0, 1) := by decide +kernel
theorem dX11_until_90 : decode cX11_until 90 = .ok (.invokevirtual 327, 3) := by decide +kernel
theorem dX11_until_93 : decode cX11_until 93 = .ok (.iinc 4 1, 3) := by decide +kernel
theorem dX11_until_96 : decode cX11_until 96 = .ok (.goto (-59), 3) := by decide +kernel
theorem dX11_until_99 : decode cX11_until 99 = .ok (.iload_n 3, 1) := by decide +kernel
theorem dX11_until_100 : decode cX11_until 100 = .ok (.ireturn, 1) := by decide +kernel
set_option maxRecDepth 20000 in
theorem ggX11_copiesText_X11_copies : GoodIn wsX11_copiesText wsX11_copies := goodIn_r _ [6, 7, 8, 9, 10, 11, 12, 13, 14, 15, 16, 17, 18, 19, 20, 21, 22, 23, 24, 25, 26, 27, 28, 29, 30, 31, 32, 33, 34, 35, 36, 37] (by decide +kernel) (by decide +kernel)
set_option maxRecDepth 20000 in
theorem gX11_copiesText_X11_copies : GoodIn wsX11_copiesText (wsV RX11 327 RX11 yX11_copies wsX11_copies) := goodIn_app (goodIn_of _ (by decide +kernel)) ggX11_copiesText_X11_copies
theorem dX11_copiesText_0 : decode cX11_copiesText 0 = .ok (.aload_n 0, 1) := by decide +kernel
theorem dX11_copiesText_1 : decode cX11_copiesText 1 = .ok (.iload_n 1, 1) := by decide +kernel
theorem dX11_copiesText_2 : decode cX11_copiesText 2 = .ok (.iload_n 2, 1) := by decide +kernel
theorem dX11_copiesText_3 : decode cX11_copiesText 3 = .ok (.invokevirtual 327, 3) := by decide +kernel
theorem dX11_copiesText_6 : decode cX11_copiesText 6 = .ok (.iconst 0, 1) := by decide +kernel
theorem dX11_copiesText_7 : decode cX11_copiesText 7 = .ok (.istore_n 3, 1) := by decide +kernel
theorem dX11_copiesText_8 : decode cX11_copiesText 8 = .ok (.iload_n 3, 1) := by decide +kernel
theorem dX11_copiesText_9 : decode cX11_copiesText 9 = .ok (.sipush 400, 3) := by decide +kernel
theorem dX11_copiesText_12 : decode cX11_copiesText 12 = .ok (.if_icmp .ge 33, 3) := by decide +kernel
theorem dX11_copiesText_15 : decode cX11_copiesText 15 = .ok (.aload_n 0, 1) := by decide +kernel
theorem dX11_copiesText_16 : decode cX11_copiesText 16 = .ok (.getfield 13, 3) := by decide +kernel
theorem dX11_copiesText_19 : decode cX11_copiesText 19 = .ok (.sipush 400, 3) := by decide +kernel
theorem dX11_copiesText_22 : decode cX11_copiesText 22 = .ok (.iload_n 2, 1) := by decide +kernel
theorem dX11_copiesText_23 : decode cX11_copiesText 23 = .ok (.imul, 1) := by decide +kernel
theorem dX11_copiesText_24 : decode cX11_copiesText 24 = .ok (.iload_n 3, 1) := by decide +kernel
theorem dX11_copiesText_25 : decode cX11_copiesText 25 = .ok (.iadd, 1) := by decide +kernel
theorem dX11_copiesText_26 : decode cX11_copiesText 26 = .ok (.aload_n 0, 1) := by decide +kernel
theorem dX11_copiesText_27 : decode cX11_copiesText 27 = .ok (.getfield 13, 3) := by decide +kernel
theorem dX11_copiesText_30 : decode cX11_copiesText 30 = .ok (.sipush 400, 3) := by decide +kernel
theorem dX11_copiesText_33 : decode cX11_copiesText 33 = .ok (.iload_n 1, 1) := by decide +kernel
theorem dX11_copiesText_34 : decode cX11_copiesText 34 = .ok (.imul, 1) := by decide +kernel
theorem dX11_copiesText_35 : decode cX11_copiesText 35 = .ok (.iload_n 3, 1) := by decide +kernel
theorem dX11_copiesText_36 : decode cX11_copiesText 36 = .ok (.iadd, 1) := by decide +kernel
theorem dX11_copiesText_37 : decode cX11_copiesText 37 = .ok (.baload, 1) := by decide +kernel
theorem dX11_copiesText_38 : decode cX11_copiesText 38 = .ok (.bastore, 1) := by decide +kernel
theorem dX11_copiesText_39 : decode cX11_copiesText 39 = .ok (.iinc 3 1, 3) := by decide +kernel
theorem dX11_copiesText_42 : decode cX11_copiesText 42 = .ok (.goto (-34), 3) := by decide +kernel
theorem dX11_copiesText_45 : decode cX11_copiesText 45 = .ok (.return_, 1) := by decide +kernel
set_option maxRecDepth 20000 in
theorem ggX11_image_X11_in : GoodIn wsX11_image wsX11_in := goodIn_r _ [6] (by decide +kernel) (by decide +kernel)
set_option maxRecDepth 20000 in
theorem gX11_image_X11_in : GoodIn wsX11_image (va_wsS RX11 70 yX11_in wsX11_in) := goodIn_app (goodIn_of _ (by decide +kernel)) ggX11_image_X11_in
set_option maxRecDepth 20000 in
theorem ggX11_image_X11_copiesText : GoodIn wsX11_image wsX11_copiesText := goodIn_r _ [10, 11, 12, 13, 14, 5, 15, 16, 17, 18, 19, 20, 21, 22, 23, 24, 25, 26, 27, 28, 29, 30, 31, 32, 33, 34, 35, 36, 37, 38, 39, 40, 41, 42, 43, 44, 45, 46] (by decide +kernel) (by decide +kernel)
set_option maxRecDepth 20000 in
theorem gX11_image_X11_copiesText : GoodIn wsX11_image (wsV RX11 333 RX11 yX11_copiesText wsX11_copiesText) := goodIn_app (goodIn_of _ (by decide +kernel)) ggX11_image_X11_copiesText
theorem dX11_image_0 : decode cX11_image 0 = .ok (.aload_n 0, 1) := by decide +kernel
theorem dX11_image_1 : decode cX11_image 1 = .ok (.iconst 0, 1) := by decide +kernel
theorem dX11_image_2 : decode cX11_image 2 = .ok (.putfield 66, 3) := by decide +kernel
theorem dX11_image_5 : decode cX11_image 5 = .ok (.iload_n 1, 1) := by decide +kernel
theorem dX11_image_6 : decode cX11_image 6 = .ok (.iconst 0, 1) := by decide +kernel
theorem dX11_image_7 : decode cX11_image 7 = .ok (.iconst 2, 1) := by decide +kernel
theorem dX11_image_8 : decode cX11_image 8 = .ok (.invokestatic 70, 3) := by decide +kernel
theorem dX11_image_11 : decode cX11_image 11 = .ok (.ifCond .ne 5, 3) := by decide +kernel
theorem dX11_image_14 : decode cX11_image 14 = .ok (.iconst 0, 1) := by decide +kernel
theorem dX11_image_15 : decode cX11_image 15 = .ok (.ireturn, 1) := by decide +kernel
theorem dX11_image_16 : decode cX11_image 16 = .ok (.aload_n 0, 1) := by decide +kernel
theorem dX11_image_17 : decode cX11_image 17 = .ok (.iconst 0, 1) := by decide +kernel
theorem dX11_image_18 : decode cX11_image 18 = .ok (.iload_n 1, 1) := by decide +kernel
theorem dX11_image_19 : decode cX11_image 19 = .ok (.iconst 1, 1) := by decide +kernel
theorem dX11_image_20 : decode cX11_image 20 = .ok (.iadd, 1) := by decide +kernel
theorem dX11_image_21 : decode cX11_image 21 = .ok (.invokevirtual 333, 3) := by decide +kernel
theorem dX11_image_24 : decode cX11_image 24 = .ok (.aload_n 0, 1) := by decide +kernel
theorem dX11_image_25 : decode cX11_image 25 = .ok (.getfield 17, 3) := by decide +kernel
theorem dX11_image_28 : decode cX11_image 28 = .ok (.iload_n 1, 1) := by decide +kernel
theorem dX11_image_29 : decode cX11_image 29 = .ok (.iconst 1, 1) := by decide +kernel
theorem dX11_image_30 : decode cX11_image 30 = .ok (.bastore, 1) := by decide +kernel
theorem dX11_image_31 : decode cX11_image 31 = .ok (.iconst 1, 1) := by decide +kernel
theorem dX11_image_32 : decode cX11_image 32 = .ok (.ireturn, 1) := by decide +kernel
set_option maxRecDepth 20000 in
theorem ggX11_again_X11_in : GoodIn wsX11_again wsX11_in := goodIn_r _ [7] (by decide +kernel) (by decide +kernel)
set_option maxRecDepth 20000 in
theorem gX11_again_X11_in : GoodIn wsX11_again (va_wsS RX11 70 yX11_in wsX11_in) := goodIn_app (goodIn_of _ (by decide +kernel)) ggX11_again_X11_in
set_option maxRecDepth 20000 in
theorem ggX11_again_X11_copiesText : GoodIn wsX11_again wsX11_copiesText := goodIn_r _ [11, 12, 13, 14, 15, 6, 16, 17, 18, 19, 20, 21, 22, 23, 24, 25, 26, 27, 28, 29, 30, 31, 32, 33, 34, 35, 36, 37, 38, 39, 40, 41, 42, 43, 44, 45, 46, 47] (by decide +kernel) (by decide +kernel)
set_option maxRecDepth 20000 in
theorem gX11_again_X11_copiesText : GoodIn wsX11_again (wsV RX11 333 RX11 yX11_copiesText wsX11_copiesText) := goodIn_app (goodIn_of _ (by decide +kernel)) ggX11_again_X11_copiesText
theorem dX11_again_0 : decode cX11_again 0 = .ok (.aload_n 0, 1) := by decide +kernel
theorem dX11_again_1 : decode cX11_again 1 = .ok (.iconst 0, 1) := by decide +kernel
theorem dX11_again_2 : decode cX11_again 2 = .ok (.putfield 66, 3) := by decide +kernel
theorem dX11_again_5 : decode cX11_again 5 = .ok (.iload_n 1, 1) := by decide +kernel
theorem dX11_again_6 : decode cX11_again 6 = .ok (.iconst 0, 1) := by decide +kernel
theorem dX11_again_7 : decode cX11_again 7 = .ok (.iconst 2, 1) := by decide +kernel
theorem dX11_again_8 : decode cX11_again 8 = .ok (.invokestatic 70, 3) := by decide +kernel
theorem dX11_again_11 : decode cX11_again 11 = .ok (.ifCond .eq 12, 3) := by decide +kernel
theorem dX11_again_14 : decode cX11_again 14 = .ok (.aload_n 0, 1) := by decide +kernel
theorem dX11_again_15 : decode cX11_again 15 = .ok (.getfield 17, 3) := by decide +kernel
theorem dX11_again_18 : decode cX11_again 18 = .ok (.iload_n 1, 1) := by decide +kernel
theorem dX11_again_19 : decode cX11_again 19 = .ok (.baload, 1) := by decide +kernel
theorem dX11_again_20 : decode cX11_again 20 = .ok (.ifCond .ne 5, 3) := by decide +kernel
theorem dX11_again_23 : decode cX11_again 23 = .ok (.iconst 0, 1) := by decide +kernel
theorem dX11_again_24 : decode cX11_again 24 = .ok (.ireturn, 1) := by decide +kernel
theorem dX11_again_25 : decode cX11_again 25 = .ok (.aload_n 0, 1) := by decide +kernel
theorem dX11_again_26 : decode cX11_again 26 = .ok (.iload_n 1, 1) := by decide +kernel
theorem dX11_again_27 : decode cX11_again 27 = .ok (.iconst 1, 1) := by decide +kernel
theorem dX11_again_28 : decode cX11_again 28 = .ok (.iadd, 1) := by decide +kernel
theorem dX11_again_29 : decode cX11_again 29 = .ok (.iconst 0, 1) := by decide +kernel
theorem dX11_again_30 : decode cX11_again 30 = .ok (.invokevirtual 333, 3) := by decide +kernel
theorem dX11_again_33 : decode cX11_again 33 = .ok (.aload_n 0, 1) := by decide +kernel
theorem dX11_again_34 : decode cX11_again 34 = .ok (.iconst 0, 1) := by decide +kernel
theorem dX11_again_35 : decode cX11_again 35 = .ok (.putfield 176, 3) := by decide +kernel
theorem dX11_again_38 : decode cX11_again 38 = .ok (.iconst 1, 1) := by decide +kernel
theorem dX11_again_39 : decode cX11_again 39 = .ok (.ireturn, 1) := by decide +kernel
theorem dJ6_bitCount_0f7a4_0 : decode cJ6_bitCount_0f7a4 0 = .ok (.iload_n 0, 1) := by decide +kernel
theorem dJ6_bitCount_0f7a4_1 : decode cJ6_bitCount_0f7a4 1 = .ok (.iload_n 0, 1) := by decide +kernel
theorem dJ6_bitCount_0f7a4_2 : decode cJ6_bitCount_0f7a4 2 = .ok (.iconst 1, 1) := by decide +kernel
theorem dJ6_bitCount_0f7a4_3 : decode cJ6_bitCount_0f7a4 3 = .ok (.iushr, 1) := by decide +kernel
theorem dJ6_bitCount_0f7a4_4 : decode cJ6_bitCount_0f7a4 4 = .ok (.ldc_w 265, 3) := by decide +kernel
theorem dJ6_bitCount_0f7a4_7 : decode cJ6_bitCount_0f7a4 7 = .ok (.iand, 1) := by decide +kernel
theorem dJ6_bitCount_0f7a4_8 : decode cJ6_bitCount_0f7a4 8 = .ok (.isub, 1) := by decide +kernel
theorem dJ6_bitCount_0f7a4_9 : decode cJ6_bitCount_0f7a4 9 = .ok (.istore_n 0, 1) := by decide +kernel
theorem dJ6_bitCount_0f7a4_10 : decode cJ6_bitCount_0f7a4 10 = .ok (.iload_n 0, 1) := by decide +kernel
theorem dJ6_bitCount_0f7a4_11 : decode cJ6_bitCount_0f7a4 11 = .ok (.ldc_w 266, 3) := by decide +kernel
theorem dJ6_bitCount_0f7a4_14 : decode cJ6_bitCount_0f7a4 14 = .ok (.iand, 1) := by decide +kernel
theorem dJ6_bitCount_0f7a4_15 : decode cJ6_bitCount_0f7a4 15 = .ok (.iload_n 0, 1) := by decide +kernel
theorem dJ6_bitCount_0f7a4_16 : decode cJ6_bitCount_0f7a4 16 = .ok (.iconst 2, 1) := by decide +kernel
theorem dJ6_bitCount_0f7a4_17 : decode cJ6_bitCount_0f7a4 17 = .ok (.iushr, 1) := by decide +kernel
theorem dJ6_bitCount_0f7a4_18 : decode cJ6_bitCount_0f7a4 18 = .ok (.ldc_w 266, 3) := by decide +kernel
theorem dJ6_bitCount_0f7a4_21 : decode cJ6_bitCount_0f7a4 21 = .ok (.iand, 1) := by decide +kernel
theorem dJ6_bitCount_0f7a4_22 : decode cJ6_bitCount_0f7a4 22 = .ok (.iadd, 1) := by decide +kernel
theorem dJ6_bitCount_0f7a4_23 : decode cJ6_bitCount_0f7a4 23 = .ok (.istore_n 0, 1) := by decide +kernel
theorem dJ6_bitCount_0f7a4_24 : decode cJ6_bitCount_0f7a4 24 = .ok (.iload_n 0, 1) := by decide +kernel
theorem dJ6_bitCount_0f7a4_25 : decode cJ6_bitCount_0f7a4 25 = .ok (.iload_n 0, 1) := by decide +kernel
theorem dJ6_bitCount_0f7a4_26 : decode cJ6_bitCount_0f7a4 26 = .ok (.iconst 4, 1) := by decide +kernel
theorem dJ6_bitCount_0f7a4_27 : decode cJ6_bitCount_0f7a4 27 = .ok (.iushr, 1) := by decide +kernel
theorem dJ6_bitCount_0f7a4_28 : decode cJ6_bitCount_0f7a4 28 = .ok (.iadd, 1) := by decide +kernel
theorem dJ6_bitCount_0f7a4_29 : decode cJ6_bitCount_0f7a4 29 = .ok (.ldc_w 267, 3) := by decide +kernel
theorem dJ6_bitCount_0f7a4_32 : decode cJ6_bitCount_0f7a4 32 = .ok (.iand, 1) := by decide +kernel
theorem dJ6_bitCount_0f7a4_33 : decode cJ6_bitCount_0f7a4 33 = .ok (.istore_n 0, 1) := by decide +kernel
theorem dJ6_bitCount_0f7a4_34 : decode cJ6_bitCount_0f7a4 34 = .ok (.iload_n 0, 1) := by decide +kernel
theorem dJ6_bitCount_0f7a4_35 : decode cJ6_bitCount_0f7a4 35 = .ok (.iload_n 0, 1) := by decide +kernel
theorem dJ6_bitCount_0f7a4_36 : decode cJ6_bitCount_0f7a4 36 = .ok (.bipush 8, 2) := by decide +kernel
theorem dJ6_bitCount_0f7a4_38 : decode cJ6_bitCount_0f7a4 38 = .ok (.iushr, 1) := by decide +kernel
theorem dJ6_bitCount_0f7a4_39 : decode cJ6_bitCount_0f7a4 39 = .ok (.iadd, 1) := by decide +kernel
theorem dJ6_bitCount_0f7a4_40 : decode cJ6_bitCount_0f7a4 40 = .ok (.istore_n 0, 1) := by decide +kernel
theorem dJ6_bitCount_0f7a4_41 : decode cJ6_bitCount_0f7a4 41 = .ok (.iload_n 0, 1) := by decide +kernel
theorem dJ6_bitCount_0f7a4_42 : decode cJ6_bitCount_0f7a4 42 = .ok (.iload_n 0, 1) := by decide +kernel
theorem dJ6_bitCount_0f7a4_43 : decode cJ6_bitCount_0f7a4 43 = .ok (.bipush 16, 2) := by decide +kernel
theorem dJ6_bitCount_0f7a4_45 : decode cJ6_bitCount_0f7a4 45 = .ok (.iushr, 1) := by decide +kernel
theorem dJ6_bitCount_0f7a4_46 : decode cJ6_bitCount_0f7a4 46 = .ok (.iadd, 1) := by decide +kernel
theorem dJ6_bitCount_0f7a4_47 : decode cJ6_bitCount_0f7a4 47 = .ok (.istore_n 0, 1) := by decide +kernel
theorem dJ6_bitCount_0f7a4_48 : decode cJ6_bitCount_0f7a4 48 = .ok (.iload_n 0, 1) := by decide +kernel
theorem dJ6_bitCount_0f7a4_49 : decode cJ6_bitCount_0f7a4 49 = .ok (.bipush 63, 2) := by decide +kernel
theorem dJ6_bitCount_0f7a4_51 : decode cJ6_bitCount_0f7a4 51 = .ok (.iand, 1) := by decide +kernel
theorem dJ6_bitCount_0f7a4_52 : decode cJ6_bitCount_0f7a4 52 = .ok (.ireturn, 1) := by decide +kernel
theorem dJ9_max_7cf53_0 : decode cJ9_max_7cf53 0 = .ok (.iload_n 0, 1) := by decide +kernel
theorem dJ9_max_7cf53_1 : decode cJ9_max_7cf53 1 = .ok (.iload_n 1, 1) := by decide +kernel
theorem dJ9_max_7cf53_2 : decode cJ9_max_7cf53 2 = .ok (.if_icmp .lt 7, 3) := by decide +kernel
theorem dJ9_max_7cf53_5 : decode cJ9_max_7cf53 5 = .ok (.iload_n 0, 1) := by decide +kernel
theorem dJ9_max_7cf53_6 : decode cJ9_max_7cf53 6 = .ok (.goto 4, 3) := by decide +kernel
theorem dJ9_max_7cf53_9 : decode cJ9_max_7cf53 9 = .ok (.iload_n 1, 1) := by decide +kernel
theorem dJ9_max_7cf53_10 : decode cJ9_max_7cf53 10 = .ok (.ireturn, 1) := by decide +kernel
theorem dJ9_min_7cf53_0 : decode cJ9_min_7cf53 0 = .ok (.iload_n 0, 1) := by decide +kernel
theorem dJ9_min_7cf53_1 : decode cJ9_min_7cf53 1 = .ok (.iload_n 1, 1) := by decide +kernel
theorem dJ9_min_7cf53_2 : decode cJ9_min_7cf53 2 = .ok (.if_icmp .gt 7, 3) := by decide +kernel
theorem dJ9_min_7cf53_5 : decode cJ9_min_7cf53 5 = .ok (.iload_n 0, 1) := by decide +kernel
theorem dJ9_min_7cf53_6 : decode cJ9_min_7cf53 6 = .ok (.goto 4, 3) := by decide +kernel
theorem dJ9_min_7cf53_9 : decode cJ9_min_7cf53 9 = .ok (.iload_n 1, 1) := by decide +kernel
theorem dJ9_min_7cf53_10 : decode cJ9_min_7cf53 10 = .ok (.ireturn, 1) := by decide +kernel
set_option maxRecDepth 20000 in
theorem ggJ0_length_8abf5_J0_coder_7d493 : GoodIn wsJ0_length_8abf5 wsJ0_coder_7d493 := goodIn_r _ [6, 7, 8] (by decide +kernel) (by decide +kernel)
set_option maxRecDepth 20000 in
theorem gJ0_length_8abf5_J0_coder_7d493 : GoodIn wsJ0_length_8abf5 (wsV RJ0 335 RJ0 yJ0_coder_7d493 wsJ0_coder_7d493) := goodIn_app (goodIn_of _ (by decide +kernel)) ggJ0_length_8abf5_J0_coder_7d493
theorem dJ0_length_8abf5_0 : decode cJ0_length_8abf5 0 = .ok (.aload_n 0, 1) := by decide +kernel
theorem dJ0_length_8abf5_1 : decode cJ0_length_8abf5 1 = .ok (.getfield 9, 3) := by decide +kernel
theorem dJ0_length_8abf5_4 : decode cJ0_length_8abf5 4 = .ok (.arraylength, 1) := by decide +kernel
theorem dJ0_length_8abf5_5 : decode cJ0_length_8abf5 5 = .ok (.aload_n 0, 1) := by decide +kernel
theorem dJ0_length_8abf5_6 : decode cJ0_length_8abf5 6 = .ok (.invokevirtual 335, 3) := by decide +kernel
theorem dJ0_length_8abf5_9 : decode cJ0_length_8abf5 9 = .ok (.ishr, 1) := by decide +kernel
theorem dJ0_length_8abf5_10 : decode cJ0_length_8abf5 10 = .ok (.ireturn, 1) := by decide +kernel
set_option maxRecDepth 20000 in
theorem ggJ0_charAt_5068e_J0_isLatin1_aae02 : GoodIn wsJ0_charAt_5068e wsJ0_isLatin1_aae02 := goodIn_r _ [6, 7, 8] (by decide +kernel) (by decide +kernel)
set_option maxRecDepth 20000 in
theorem gJ0_charAt_5068e_J0_isLatin1_aae02 : GoodIn wsJ0_charAt_5068e (wsV RJ0 492 RJ0 yJ0_isLatin1_aae02 wsJ0_isLatin1_aae02) := goodIn_app (goodIn_of _ (by decide +kernel)) ggJ0_charAt_5068e_J0_isLatin1_aae02
set_option maxRecDepth 20000 in
theorem ggJ0_charAt_5068e_J1_charAt_3b067 : GoodIn wsJ0_charAt_5068e wsJ1_charAt_3b067 := goodIn_r _ [12, 13, 14, 5, 15, 16, 17, 18, 19, 20] (by decide +kernel) (by decide +kernel)
set_option maxRecDepth 20000 in
theorem gJ0_charAt_5068e_J1_charAt_3b067 : GoodIn wsJ0_charAt_5068e (va_wsS RJ0 495 yJ1_charAt_3b067 wsJ1_charAt_3b067) := goodIn_app (goodIn_of _ (by decide +kernel)) ggJ0_charAt_5068e_J1_charAt_3b067
set_option maxRecDepth 20000 in
theorem ggJ0_charAt_5068e_J2_charAt_3b067 : GoodIn wsJ0_charAt_5068e wsJ2_charAt_3b067 := goodIn_r _ [24, 25, 26, 23, 27, 28, 29, 30, 31, 14, 5, 15, 16, 17, 18, 19, 20, 32, 33, 34, 35, 36, 37] (by decide +kernel) (by decide +kernel)
set_option maxRecDepth 20000 in
theorem gJ0_charAt_5068e_J2_charAt_3b067 : GoodIn wsJ0_charAt_5068e (va_wsS RJ0 498 yJ2_charAt_3b067 wsJ2_charAt_3b067) := goodIn_app (goodIn_of _ (by decide +kernel)) ggJ0_charAt_5068e_J2_charAt_3b067
theorem dJ0_charAt_5068e_0 : decode cJ0_charAt_5068e 0 = .ok (.aload_n 0, 1) := by decide +kernel
theorem dJ0_charAt_5068e_1 : decode cJ0_charAt_5068e 1 = .ok (.invokevirtual 492, 3) := by decide +kernel
theorem dJ0_charAt_5068e_4 : decode cJ0_charAt_5068e 4 = .ok (.ifCond .eq 12, 3) := by decide +kernel
theorem dJ0_charAt_5068e_7 : decode cJ0_charAt_5068e 7 = .ok (.aload_n 0, 1) := by decide +kernel
theorem dJ0_charAt_5068e_8 : decode cJ0_charAt_5068e 8 = .ok (.getfield 9, 3) := by decide +kernel
theorem dJ0_charAt_5068e_11 : decode cJ0_charAt_5068e 11 = .ok (.iload_n 1, 1) := by decide +kernel
theorem dJ0_charAt_5068e_12 : decode cJ0_charAt_5068e 12 = .ok (.invokestatic 495, 3) := by decide +kernel
theorem dJ0_charAt_5068e_15 : decode cJ0_charAt_5068e 15 = .ok (.ireturn, 1) := by decide +kernel
theorem dJ0_charAt_5068e_16 : decode cJ0_charAt_5068e 16 = .ok (.aload_n 0, 1) := by decide +kernel
theorem dJ0_charAt_5068e_17 : decode cJ0_charAt_5068e 17 = .ok (.getfield 9, 3) := by decide +kernel
theorem dJ0_charAt_5068e_20 : decode cJ0_charAt_5068e 20 = .ok (.iload_n 1, 1) := by decide +kernel
theorem dJ0_charAt_5068e_21 : decode cJ0_charAt_5068e 21 = .ok (.invokestatic 498, 3) := by decide +kernel
theorem dJ0_charAt_5068e_24 : decode cJ0_charAt_5068e 24 = .ok (.ireturn, 1) := by decide +kernel
theorem dJ0_coder_7d493_0 : decode cJ0_coder_7d493 0 = .ok (.getstatic 38, 3) := by decide +kernel
theorem dJ0_coder_7d493_3 : decode cJ0_coder_7d493 3 = .ok (.ifCond .eq 10, 3) := by decide +kernel
theorem dJ0_coder_7d493_6 : decode cJ0_coder_7d493 6 = .ok (.aload_n 0, 1) := by decide +kernel
theorem dJ0_coder_7d493_7 : decode cJ0_coder_7d493 7 = .ok (.getfield 15, 3) := by decide +kernel
theorem dJ0_coder_7d493_10 : decode cJ0_coder_7d493 10 = .ok (.goto 4, 3) := by decide +kernel
theorem dJ0_coder_7d493_13 : decode cJ0_coder_7d493 13 = .ok (.iconst 1, 1) := by decide +kernel
theorem dJ0_coder_7d493_14 : decode cJ0_coder_7d493 14 = .ok (.ireturn, 1) := by decide +kernel
theorem dJ0_isLatin1_aae02_0 : decode cJ0_isLatin1_aae02 0 = .ok (.getstatic 38, 3) := by decide +kernel
theorem dJ0_isLatin1_aae02_3 : decode cJ0_isLatin1_aae02 3 = .ok (.ifCond .eq 14, 3) := by decide +kernel
theorem dJ0_isLatin1_aae02_6 : decode cJ0_isLatin1_aae02 6 = .ok (.aload_n 0, 1) := by decide +kernel
theorem dJ0_isLatin1_aae02_7 : decode cJ0_isLatin1_aae02 7 = .ok (.getfield 15, 3) := by decide +kernel
theorem dJ0_isLatin1_aae02_10 : decode cJ0_isLatin1_aae02 10 = .ok (.ifCond .ne 7, 3) := by decide +kernel
theorem dJ0_isLatin1_aae02_13 : decode cJ0_isLatin1_aae02 13 = .ok (.iconst 1, 1) := by decide +kernel
theorem dJ0_isLatin1_aae02_14 : decode cJ0_isLatin1_aae02 14 = .ok (.goto 4, 3) := by decide +kernel
theorem dJ0_isLatin1_aae02_17 : decode cJ0_isLatin1_aae02 17 = .ok (.iconst 0, 1) := by decide +kernel
theorem dJ0_isLatin1_aae02_18 : decode cJ0_isLatin1_aae02 18 = .ok (.ireturn, 1) := by decide +kernel
set_option maxRecDepth 20000 in
theorem ggJ0_checkIndex_df160_J3_checkIndex_8e157 : GoodIn wsJ0_checkIndex_df160 wsJ3_checkIndex_8e157 := goodIn_r _ [5] (by decide +kernel) (by decide +kernel)
set_option maxRecDepth 20000 in
theorem gJ0_checkIndex_df160_J3_checkIndex_8e157 : GoodIn wsJ0_checkIndex_df160 (va_wsS RJ0 1059 yJ3_checkIndex_8e157 wsJ3_checkIndex_8e157) := goodIn_app (goodIn_of _ (by decide +kernel)) ggJ0_checkIndex_df160_J3_checkIndex_8e157
theorem dJ0_checkIndex_df160_0 : decode cJ0_checkIndex_df160 0 = .ok (.iload_n 0, 1) := by decide +kernel
theorem dJ0_checkIndex_df160_1 : decode cJ0_checkIndex_df160 1 = .ok (.iload_n 1, 1) := by decide +kernel
theorem dJ0_checkIndex_df160_2 : decode cJ0_checkIndex_df160 2 = .ok (.getstatic 1053, 3) := by decide +kernel
theorem dJ0_checkIndex_df160_5 : decode cJ0_checkIndex_df160 5 = .ok (.invokestatic 1059, 3) := by decide +kernel
theorem dJ0_checkIndex_df160_8 : decode cJ0_checkIndex_df160 8 = .ok (.pop, 1) := by decide +kernel
theorem dJ0_checkIndex_df160_9 : decode cJ0_checkIndex_df160 9 = .ok (.return_, 1) := by decide +kernel
set_option maxRecDepth 20000 in
theorem ggJ1_charAt_3b067_J0_checkIndex_df160 : GoodIn wsJ1_charAt_3b067 wsJ0_checkIndex_df160 := goodIn_r _ [4, 5, 6, 7, 8, 9] (by decide +kernel) (by decide +kernel)
set_option maxRecDepth 20000 in
theorem gJ1_charAt_3b067_J0_checkIndex_df160 : GoodIn wsJ1_charAt_3b067 (va_wsS RJ1 9 yJ0_checkIndex_df160 wsJ0_checkIndex_df160) := goodIn_app (goodIn_of _ (by decide +kernel)) ggJ1_charAt_3b067_J0_checkIndex_df160
theorem dJ1_charAt_3b067_0 : decode cJ1_charAt_3b067 0 = .ok (.iload_n 1, 1) := by decide +kernel
theorem dJ1_charAt_3b067_1 : decode cJ1_charAt_3b067 1 = .ok (.aload_n 0, 1) := by decide +kernel
theorem dJ1_charAt_3b067_2 : decode cJ1_charAt_3b067 2 = .ok (.arraylength, 1) := by decide +kernel
theorem dJ1_charAt_3b067_3 : decode cJ1_charAt_3b067 3 = .ok (.invokestatic 9, 3) := by decide +kernel
theorem dJ1_charAt_3b067_6 : decode cJ1_charAt_3b067 6 = .ok (.aload_n 0, 1) := by decide +kernel
theorem dJ1_charAt_3b067_7 : decode cJ1_charAt_3b067 7 = .ok (.iload_n 1, 1) := by decide +kernel
theorem dJ1_charAt_3b067_8 : decode cJ1_charAt_3b067 8 = .ok (.baload, 1) := by decide +kernel
theorem dJ1_charAt_3b067_9 : decode cJ1_charAt_3b067 9 = .ok (.sipush 255, 3) := by decide +kernel
theorem dJ1_charAt_3b067_12 : decode cJ1_charAt_3b067 12 = .ok (.iand, 1) := by decide +kernel
theorem dJ1_charAt_3b067_13 : decode cJ1_charAt_3b067 13 = .ok (.i2c, 1) := by decide +kernel
theorem dJ1_charAt_3b067_14 : decode cJ1_charAt_3b067 14 = .ok (.ireturn, 1) := by decide +kernel
set_option maxRecDepth 20000 in
theorem ggJ2_getChar_3b067_J2_length_9d52b : GoodIn wsJ2_getChar_3b067 wsJ2_length_9d52b := goodIn_r _ [7] (by decide +kernel) (by decide +kernel)
set_option maxRecDepth 20000 in
theorem gJ2_getChar_3b067_J2_length_9d52b : GoodIn wsJ2_getChar_3b067 (va_wsS RJ2 48 yJ2_length_9d52b wsJ2_length_9d52b) := goodIn_app (goodIn_of _ (by decide +kernel)) ggJ2_getChar_3b067_J2_length_9d52b
theorem dJ2_getChar_3b067_0 : decode cJ2_getChar_3b067 0 = .ok (.getstatic 44, 3) := by decide +kernel
theorem dJ2_getChar_3b067_3 : decode cJ2_getChar_3b067 3 = .ok (.ifCond .ne 25, 3) := by decide +kernel
theorem dJ2_getChar_3b067_6 : decode cJ2_getChar_3b067 6 = .ok (.iload_n 1, 1) := by decide +kernel
theorem dJ2_getChar_3b067_7 : decode cJ2_getChar_3b067 7 = .ok (.ifCond .lt 11, 3) := by decide +kernel
theorem dJ2_getChar_3b067_10 : decode cJ2_getChar_3b067 10 = .ok (.iload_n 1, 1) := by decide +kernel
theorem dJ2_getChar_3b067_11 : decode cJ2_getChar_3b067 11 = .ok (.aload_n 0, 1) := by decide +kernel
theorem dJ2_getChar_3b067_12 : decode cJ2_getChar_3b067 12 = .ok (.invokestatic 48, 3) := by decide +kernel
theorem dJ2_getChar_3b067_15 : decode cJ2_getChar_3b067 15 = .ok (.if_icmp .lt 13, 3) := by decide +kernel
theorem dJ2_getChar_3b067_18 : decode cJ2_getChar_3b067 18 = .ok (.new 52, 3) := by decide +kernel
theorem dJ2_getChar_3b067_21 : decode cJ2_getChar_3b067 21 = .ok (.dup, 1) := by decide +kernel
theorem dJ2_getChar_3b067_22 : decode cJ2_getChar_3b067 22 = .ok (.ldc 54, 2) := by decide +kernel
theorem dJ2_getChar_3b067_24 : decode cJ2_getChar_3b067 24 = .ok (.invokespecial 56, 3) := by decide +kernel
theorem dJ2_getChar_3b067_27 : decode cJ2_getChar_3b067 27 = .ok (.athrow, 1) := by decide +kernel
theorem dJ2_getChar_3b067_28 : decode cJ2_getChar_3b067 28 = .ok (.iload_n 1, 1) := by decide +kernel
theorem dJ2_getChar_3b067_29 : decode cJ2_getChar_3b067 29 = .ok (.iconst 1, 1) := by decide +kernel
theorem dJ2_getChar_3b067_30 : decode cJ2_getChar_3b067 30 = .ok (.ishl, 1) := by decide +kernel
theorem dJ2_getChar_3b067_31 : decode cJ2_getChar_3b067 31 = .ok (.istore_n 1, 1) := by decide +kernel
theorem dJ2_getChar_3b067_32 : decode cJ2_getChar_3b067 32 = .ok (.aload_n 0, 1) := by decide +kernel
theorem dJ2_getChar_3b067_33 : decode cJ2_getChar_3b067 33 = .ok (.iload_n 1, 1) := by decide +kernel
theorem dJ2_getChar_3b067_34 : decode cJ2_getChar_3b067 34 = .ok (.iinc 1 1, 3) := by decide +kernel
theorem dJ2_getChar_3b067_37 : decode cJ2_getChar_3b067 37 = .ok (.baload, 1) := by decide +kernel
theorem dJ2_getChar_3b067_38 : decode cJ2_getChar_3b067 38 = .ok (.sipush 255, 3) := by decide +kernel
theorem dJ2_getChar_3b067_41 : decode cJ2_getChar_3b067 41 = .ok (.iand, 1) := by decide +kernel
theorem dJ2_getChar_3b067_42 : decode cJ2_getChar_3b067 42 = .ok (.getstatic 59, 3) := by decide +kernel
theorem dJ2_getChar_3b067_45 : decode cJ2_getChar_3b067 45 = .ok (.ishl, 1) := by decide +kernel
theorem dJ2_getChar_3b067_46 : decode cJ2_getChar_3b067 46 = .ok (.aload_n 0, 1) := by decide +kernel
theorem dJ2_getChar_3b067_47 : decode cJ2_getChar_3b067 47 = .ok (.iload_n 1, 1) := by decide +kernel
theorem dJ2_getChar_3b067_48 : decode cJ2_getChar_3b067 48 = .ok (.baload, 1) := by decide +kernel
theorem dJ2_getChar_3b067_49 : decode cJ2_getChar_3b067 49 = .ok (.sipush 255, 3) := by decide +kernel
theorem dJ2_getChar_3b067_52 : decode cJ2_getChar_3b067 52 = .ok (.iand, 1) := by decide +kernel
theorem dJ2_getChar_3b067_53 : decode cJ2_getChar_3b067 53 = .ok (.getstatic 63, 3) := by decide +kernel
theorem dJ2_getChar_3b067_56 : decode cJ2_getChar_3b067 56 = .ok (.ishl, 1) := by decide +kernel
theorem dJ2_getChar_3b067_57 : decode cJ2_getChar_3b067 57 = .ok (.ior, 1) := by decide +kernel
theorem dJ2_getChar_3b067_58 : decode cJ2_getChar_3b067 58 = .ok (.i2c, 1) := by decide +kernel
theorem dJ2_getChar_3b067_59 : decode cJ2_getChar_3b067 59 = .ok (.ireturn, 1) := by decide +kernel
theorem dJ2_length_9d52b_0 : decode cJ2_length_9d52b 0 = .ok (.aload_n 0, 1) := by decide +kernel
theorem dJ2_length_9d52b_1 : decode cJ2_length_9d52b 1 = .ok (.arraylength, 1) := by decide +kernel
theorem dJ2_length_9d52b_2 : decode cJ2_length_9d52b 2 = .ok (.iconst 1, 1) := by decide +kernel
theorem dJ2_length_9d52b_3 : decode cJ2_length_9d52b 3 = .ok (.ishr, 1) := by decide +kernel
theorem dJ2_length_9d52b_4 : decode cJ2_length_9d52b 4 = .ok (.ireturn, 1) := by decide +kernel
set_option maxRecDepth 20000 in
theorem ggJ2_charAt_3b067_J2_checkIndex_2214a : GoodIn wsJ2_charAt_3b067 wsJ2_checkIndex_2214a := goodIn_r _ [4, 5, 6, 3, 7, 8, 9, 10, 11, 12, 13, 14, 15, 16] (by decide +kernel) (by decide +kernel)
set_option maxRecDepth 20000 in
theorem gJ2_charAt_3b067_J2_checkIndex_2214a : GoodIn wsJ2_charAt_3b067 (va_wsS RJ2 67 yJ2_checkIndex_2214a wsJ2_checkIndex_2214a) := goodIn_app (goodIn_of _ (by decide +kernel)) ggJ2_charAt_3b067_J2_checkIndex_2214a
set_option maxRecDepth 20000 in
theorem ggJ2_charAt_3b067_J2_getChar_3b067 : GoodIn wsJ2_charAt_3b067 wsJ2_getChar_3b067 := goodIn_r _ [19, 20, 21, 22, 5, 6, 3, 7] (by decide +kernel) (by decide +kernel)
set_option maxRecDepth 20000 in
theorem gJ2_charAt_3b067_J2_getChar_3b067 : GoodIn wsJ2_charAt_3b067 (va_wsS RJ2 71 yJ2_getChar_3b067 wsJ2_getChar_3b067) := goodIn_app (goodIn_of _ (by decide +kernel)) ggJ2_charAt_3b067_J2_getChar_3b067
theorem dJ2_charAt_3b067_0 : decode cJ2_charAt_3b067 0 = .ok (.iload_n 1, 1) := by decide +kernel
theorem dJ2_charAt_3b067_1 : decode cJ2_charAt_3b067 1 = .ok (.aload_n 0, 1) := by decide +kernel
theorem dJ2_charAt_3b067_2 : decode cJ2_charAt_3b067 2 = .ok (.invokestatic 67, 3) := by decide +kernel
theorem dJ2_charAt_3b067_5 : decode cJ2_charAt_3b067 5 = .ok (.aload_n 0, 1) := by decide +kernel
theorem dJ2_charAt_3b067_6 : decode cJ2_charAt_3b067 6 = .ok (.iload_n 1, 1) := by decide +kernel
theorem dJ2_charAt_3b067_7 : decode cJ2_charAt_3b067 7 = .ok (.invokestatic 71, 3) := by decide +kernel
theorem dJ2_charAt_3b067_10 : decode cJ2_charAt_3b067 10 = .ok (.ireturn, 1) := by decide +kernel
set_option maxRecDepth 20000 in
theorem ggJ2_checkIndex_2214a_J2_length_9d52b : GoodIn wsJ2_checkIndex_2214a wsJ2_length_9d52b := goodIn_r _ [4] (by decide +kernel) (by decide +kernel)
set_option maxRecDepth 20000 in
theorem gJ2_checkIndex_2214a_J2_length_9d52b : GoodIn wsJ2_checkIndex_2214a (va_wsS RJ2 48 yJ2_length_9d52b wsJ2_length_9d52b) := goodIn_app (goodIn_of _ (by decide +kernel)) ggJ2_checkIndex_2214a_J2_length_9d52b
set_option maxRecDepth 20000 in
theorem ggJ2_checkIndex_2214a_J0_checkIndex_df160 : GoodIn wsJ2_checkIndex_2214a wsJ0_checkIndex_df160 := goodIn_r _ [8, 9, 10, 11, 12, 13] (by decide +kernel) (by decide +kernel)
set_option maxRecDepth 20000 in
theorem gJ2_checkIndex_2214a_J0_checkIndex_df160 : GoodIn wsJ2_checkIndex_2214a (va_wsS RJ2 414 yJ0_checkIndex_df160 wsJ0_checkIndex_df160) := goodIn_app (goodIn_of _ (by decide +kernel)) ggJ2_checkIndex_2214a_J0_checkIndex_df160
theorem dJ2_checkIndex_2214a_0 : decode cJ2_checkIndex_2214a 0 = .ok (.iload_n 0, 1) := by decide +kernel
theorem dJ2_checkIndex_2214a_1 : decode cJ2_checkIndex_2214a 1 = .ok (.aload_n 1, 1) := by decide +kernel
theorem dJ2_checkIndex_2214a_2 : decode cJ2_checkIndex_2214a 2 = .ok (.invokestatic 48, 3) := by decide +kernel
theorem dJ2_checkIndex_2214a_5 : decode cJ2_checkIndex_2214a 5 = .ok (.invokestatic 414, 3) := by decide +kernel
theorem dJ2_checkIndex_2214a_8 : decode cJ2_checkIndex_2214a 8 = .ok (.return_, 1) := by decide +kernel
theorem dJ7_fill_d0a16_0 : decode cJ7_fill_d0a16 0 = .ok (.iconst 0, 1) := by decide +kernel
theorem dJ7_fill_d0a16_1 : decode cJ7_fill_d0a16 1 = .ok (.istore_n 3, 1) := by decide +kernel
theorem dJ7_fill_d0a16_2 : decode cJ7_fill_d0a16 2 = .ok (.aload_n 0, 1) := by decide +kernel
theorem dJ7_fill_d0a16_3 : decode cJ7_fill_d0a16 3 = .ok (.arraylength, 1) := by decide +kernel
theorem dJ7_fill_d0a16_4 : decode cJ7_fill_d0a16 4 = .ok (.istore 4, 2) := by decide +kernel
theorem dJ7_fill_d0a16_6 : decode cJ7_fill_d0a16 6 = .ok (.iload_n 3, 1) := by decide +kernel
theorem dJ7_fill_d0a16_7 : decode cJ7_fill_d0a16 7 = .ok (.iload 4, 2) := by decide +kernel
theorem dJ7_fill_d0a16_9 : decode cJ7_fill_d0a16 9 = .ok (.if_icmp .ge 13, 3) := by decide +kernel
theorem dJ7_fill_d0a16_12 : decode cJ7_fill_d0a16 12 = .ok (.aload_n 0, 1) := by decide +kernel
theorem dJ7_fill_d0a16_13 : decode cJ7_fill_d0a16 13 = .ok (.iload_n 3, 1) := by decide +kernel
theorem dJ7_fill_d0a16_14 : decode cJ7_fill_d0a16 14 = .ok (.lload_n 1, 1) := by decide +kernel
theorem dJ7_fill_d0a16_15 : decode cJ7_fill_d0a16 15 = .ok (.lastore, 1) := by decide +kernel
theorem dJ7_fill_d0a16_16 : decode cJ7_fill_d0a16 16 = .ok (.iinc 3 1, 3) := by decide +kernel
theorem dJ7_fill_d0a16_19 : decode cJ7_fill_d0a16 19 = .ok (.goto (-13), 3) := by decide +kernel
theorem dJ7_fill_d0a16_22 : decode cJ7_fill_d0a16 22 = .ok (.return_, 1) := by decide +kernel
theorem dJ7_fill_53178_0 : decode cJ7_fill_53178 0 = .ok (.iconst 0, 1) := by decide +kernel
theorem dJ7_fill_53178_1 : decode cJ7_fill_53178 1 = .ok (.istore_n 2, 1) := by decide +kernel
theorem dJ7_fill_53178_2 : decode cJ7_fill_53178 2 = .ok (.aload_n 0, 1) := by decide +kernel
theorem dJ7_fill_53178_3 : decode cJ7_fill_53178 3 = .ok (.arraylength, 1) := by decide +kernel
theorem dJ7_fill_53178_4 : decode cJ7_fill_53178 4 = .ok (.istore_n 3, 1) := by decide +kernel
theorem dJ7_fill_53178_5 : decode cJ7_fill_53178 5 = .ok (.iload_n 2, 1) := by decide +kernel
theorem dJ7_fill_53178_6 : decode cJ7_fill_53178 6 = .ok (.iload_n 3, 1) := by decide +kernel
theorem dJ7_fill_53178_7 : decode cJ7_fill_53178 7 = .ok (.if_icmp .ge 13, 3) := by decide +kernel
theorem dJ7_fill_53178_10 : decode cJ7_fill_53178 10 = .ok (.aload_n 0, 1) := by decide +kernel
theorem dJ7_fill_53178_11 : decode cJ7_fill_53178 11 = .ok (.iload_n 2, 1) := by decide +kernel
theorem dJ7_fill_53178_12 : decode cJ7_fill_53178 12 = .ok (.iload_n 1, 1) := by decide +kernel
theorem dJ7_fill_53178_13 : decode cJ7_fill_53178 13 = .ok (.iastore, 1) := by decide +kernel
theorem dJ7_fill_53178_14 : decode cJ7_fill_53178 14 = .ok (.iinc 2 1, 3) := by decide +kernel
theorem dJ7_fill_53178_17 : decode cJ7_fill_53178 17 = .ok (.goto (-12), 3) := by decide +kernel
theorem dJ7_fill_53178_20 : decode cJ7_fill_53178 20 = .ok (.return_, 1) := by decide +kernel
theorem dJ3_checkIndex_8e157_0 : decode cJ3_checkIndex_8e157 0 = .ok (.iload_n 0, 1) := by decide +kernel
theorem dJ3_checkIndex_8e157_1 : decode cJ3_checkIndex_8e157 1 = .ok (.ifCond .lt 8, 3) := by decide +kernel
theorem dJ3_checkIndex_8e157_4 : decode cJ3_checkIndex_8e157 4 = .ok (.iload_n 0, 1) := by decide +kernel
theorem dJ3_checkIndex_8e157_5 : decode cJ3_checkIndex_8e157 5 = .ok (.iload_n 1, 1) := by decide +kernel
theorem dJ3_checkIndex_8e157_6 : decode cJ3_checkIndex_8e157 6 = .ok (.if_icmp .lt 10, 3) := by decide +kernel
theorem dJ3_checkIndex_8e157_9 : decode cJ3_checkIndex_8e157 9 = .ok (.aload_n 2, 1) := by decide +kernel
theorem dJ3_checkIndex_8e157_10 : decode cJ3_checkIndex_8e157 10 = .ok (.iload_n 0, 1) := by decide +kernel
theorem dJ3_checkIndex_8e157_11 : decode cJ3_checkIndex_8e157 11 = .ok (.iload_n 1, 1) := by decide +kernel
theorem dJ3_checkIndex_8e157_12 : decode cJ3_checkIndex_8e157 12 = .ok (.invokestatic 95, 3) := by decide +kernel
theorem dJ3_checkIndex_8e157_15 : decode cJ3_checkIndex_8e157 15 = .ok (.athrow, 1) := by decide +kernel
theorem dJ3_checkIndex_8e157_16 : decode cJ3_checkIndex_8e157 16 = .ok (.iload_n 0, 1) := by decide +kernel
theorem dJ3_checkIndex_8e157_17 : decode cJ3_checkIndex_8e157 17 = .ok (.ireturn, 1) := by decide +kernel
abbrev vwCl : List vw_C := [(RX0, TX0, 1), (RX1, TX1, 13), (RX2, TX2, 6), (RX3, TX3, 6), (RX4, TX4, 3), (RX5, TX5, 13), (RX6, TX6, 7), (RX8, TX8, 4), (RX9, TX9, 3), (RX10, TX10, 14), (RX11, TX11, 30)]

